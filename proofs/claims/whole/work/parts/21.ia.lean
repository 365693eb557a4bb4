section i_21_ia
variable {v0 v1 v2 v3 v4 v5 v6 v7 v8 v9 v10 v11 v12 v13 v14 v15 v16 v17 v18 v19 w0 w1 w2 w3 w4 w5 : Value} {x0 x1 x2 x3 x4 x5 x6 : Int32} {l0 l1 l2 l3 : Int64} {a0 a1 a2 a3 a4 a5 a6 : Nat} {st L : List Value} {μ : mM}
theorem i44_0 : m_G 44 0 [.ref a0] st μ = m_G 44 1 [.ref a0] (.ref a0 :: st) μ := g_aload_n (i := 0) (by decide +kernel) rfl
theorem i44_1 : m_G 44 1 L (.ref a0 :: []) μ = m_G 44 4 L [] μ := g_obj (i := 1) (by decide +kernel) (by decide +kernel) ⟨Nat.le_of_ble_eq_true rfl, by decide, by decide⟩
theorem i44_4 : m_G 44 4 L [] μ = some (none, μ) := g_ret (by decide +kernel) (by decide)
theorem D44 : m_D 44 [.ref a0] μ = m_G 44 0 [.ref a0] [] μ := d_def (by decide) rfl
theorem i45_0 : m_G 45 0 [.int x0] st μ = m_G 45 1 [.int x0] (.int x0 :: st) μ := g_iload_n (i := 0) (by decide +kernel) rfl
theorem i45_1 : m_G 45 1 L st μ = m_G 45 3 L (.int 97 :: st) μ := g_bipush (n := 97) (by decide +kernel) (by decide)
theorem i45_3 : m_G 45 3 L (.int x1 :: .int x0 :: st) μ = if x0 < x1 then m_G 45 16 L st μ else m_G 45 6 L st μ := g_cmplt (off := 13) (by decide +kernel) (by decide)
theorem i45_6 : m_G 45 6 [.int x0] st μ = m_G 45 7 [.int x0] (.int x0 :: st) μ := g_iload_n (i := 0) (by decide +kernel) rfl
theorem i45_7 : m_G 45 7 L st μ = m_G 45 9 L (.int 101 :: st) μ := g_bipush (n := 101) (by decide +kernel) (by decide)
theorem i45_9 : m_G 45 9 L (.int x1 :: .int x0 :: st) μ = if x1 < x0 then m_G 45 16 L st μ else m_G 45 12 L st μ := g_cmpgt (off := 7) (by decide +kernel) (by decide)
theorem i45_12 : m_G 45 12 L st μ = m_G 45 13 L (.int 1 :: st) μ := g_iconst (n := 1) (by decide +kernel) (by decide)
theorem i45_13 : m_G 45 13 L st μ = m_G 45 17 L st μ := g_goto (off := 4) (by decide +kernel) (by decide)
theorem i45_16 : m_G 45 16 L st μ = m_G 45 17 L (.int 0 :: st) μ := g_iconst (n := 0) (by decide +kernel) (by decide)
theorem i45_17 (h : x0 &&& 1 = x0) : m_G 45 17 L [.int x0] μ = some (some (.int x0), μ) := g_iretz (by decide +kernel) (by decide) h
theorem D45 : m_D 45 [.int x0] μ = m_G 45 0 [.int x0] [] μ := d_def (by decide) rfl
theorem i46_0 : m_G 46 0 [.int x0] st μ = m_G 46 1 [.int x0] (.int x0 :: st) μ := g_iload_n (i := 0) (by decide +kernel) rfl
theorem i46_1 : m_G 46 1 L st μ = m_G 46 3 L (.int 48 :: st) μ := g_bipush (n := 48) (by decide +kernel) (by decide)
theorem i46_3 : m_G 46 3 L (.int x1 :: .int x0 :: st) μ = if x0 < x1 then m_G 46 16 L st μ else m_G 46 6 L st μ := g_cmplt (off := 13) (by decide +kernel) (by decide)
theorem i46_6 : m_G 46 6 [.int x0] st μ = m_G 46 7 [.int x0] (.int x0 :: st) μ := g_iload_n (i := 0) (by decide +kernel) rfl
theorem i46_7 : m_G 46 7 L st μ = m_G 46 9 L (.int 57 :: st) μ := g_bipush (n := 57) (by decide +kernel) (by decide)
theorem i46_9 : m_G 46 9 L (.int x1 :: .int x0 :: st) μ = if x1 < x0 then m_G 46 16 L st μ else m_G 46 12 L st μ := g_cmpgt (off := 7) (by decide +kernel) (by decide)
theorem i46_12 : m_G 46 12 L st μ = m_G 46 13 L (.int 1 :: st) μ := g_iconst (n := 1) (by decide +kernel) (by decide)
theorem i46_13 : m_G 46 13 L st μ = m_G 46 17 L st μ := g_goto (off := 4) (by decide +kernel) (by decide)
theorem i46_16 : m_G 46 16 L st μ = m_G 46 17 L (.int 0 :: st) μ := g_iconst (n := 0) (by decide +kernel) (by decide)
theorem i46_17 (h : x0 &&& 1 = x0) : m_G 46 17 L [.int x0] μ = some (some (.int x0), μ) := g_iretz (by decide +kernel) (by decide) h
theorem D46 : m_D 46 [.int x0] μ = m_G 46 0 [.int x0] [] μ := d_def (by decide) rfl
theorem i47_0 : m_G 47 0 [.ref a0, v1, v2] st μ = m_G 47 1 [.ref a0, v1, v2] (.ref a0 :: st) μ := g_aload_n (i := 0) (by decide +kernel) rfl
theorem i47_1 : m_G 47 1 L (.ref a0 :: []) μ = m_G 47 4 L [] μ := g_obj (i := 3) (by decide +kernel) (by decide +kernel) ⟨Nat.le_of_ble_eq_true rfl, by decide, by decide⟩
theorem i47_4 : m_G 47 4 [.ref a0, v1, v2] st μ = m_G 47 5 [.ref a0, v1, v2] (.ref a0 :: st) μ := g_aload_n (i := 0) (by decide +kernel) rfl
theorem i47_5 : m_G 47 5 [v0, .int x0, v2] st μ = m_G 47 6 [v0, .int x0, v2] (.int x0 :: st) μ := g_iload_n (i := 1) (by decide +kernel) rfl
theorem i47_6 : m_G 47 6 L (w0 :: .ref a0 :: st) μ = b_m (m_pf μ a0 6 0 .int w0) 47 9 L st := g_putf (i := 9) (by decide +kernel) (by decide +kernel) (Or.inr ⟨by decide, by decide⟩) (by decide)
theorem i47_9 : m_G 47 9 [.ref a0, v1, v2] st μ = m_G 47 10 [.ref a0, v1, v2] (.ref a0 :: st) μ := g_aload_n (i := 0) (by decide +kernel) rfl
theorem i47_10 : m_G 47 10 [v0, v1, .ref a0] st μ = m_G 47 11 [v0, v1, .ref a0] (.ref a0 :: st) μ := g_aload_n (i := 2) (by decide +kernel) rfl
theorem i47_11 : m_G 47 11 L (.ref a0 :: st) μ = b_v (m_gf μ a0 7 0) 47 14 L st μ := g_getf (i := 15) (by decide +kernel) (by decide +kernel)
theorem i47_14 : m_G 47 14 [v0, v1, .ref a0] st μ = m_G 47 15 [v0, v1, .ref a0] (.ref a0 :: st) μ := g_aload_n (i := 2) (by decide +kernel) rfl
theorem i47_15 : m_G 47 15 L (.ref a0 :: st) μ = b_v (m_gf μ a0 7 1) 47 18 L st μ := g_getf (i := 21) (by decide +kernel) (by decide +kernel)
theorem i47_18 : m_G 47 18 L (.int x1 :: .ref a1 :: [w0]) μ = b_c (m_D 173 [.ref a1, .int x1] μ) 47 21 L [w0] := g_stat (i := 24) (n := 2) (by decide +kernel) (by decide +kernel) (by decide) (x_call_ok (ws := [1, 1]) (Nat.le_of_ble_eq_true rfl) rfl (by decide +kernel) rfl (by decide +kernel) rfl rfl)
theorem i47_21 : m_G 47 21 L (w0 :: .ref a0 :: st) μ = b_m (m_pf μ a0 6 1 (.array .int) w0) 47 24 L st := g_putf (i := 30) (by decide +kernel) (by decide +kernel) (Or.inr ⟨by decide, by decide⟩) (by decide)
theorem i47_24 : m_G 47 24 L [] μ = some (none, μ) := g_ret (by decide +kernel) (by decide)
theorem D47 : m_D 47 [.ref a0, .int x0, .ref a2] μ = m_G 47 0 [.ref a0, .int x0, .ref a2] [] μ := d_def (by decide) rfl
theorem i48_0 : m_G 48 0 [v0, .int x0] st μ = m_G 48 1 [v0, .int x0] (.int x0 :: st) μ := g_iload_n (i := 1) (by decide +kernel) rfl
theorem i48_1 : m_G 48 1 L (.int x0 :: st) μ = if x0 = 0 then m_G 48 33 L st μ else m_G 48 4 L st μ := g_ifeq (off := 32) (by decide +kernel) (by decide)
theorem i48_4 : m_G 48 4 [v0, .int x0] st μ = m_G 48 5 [v0, .int x0] (.int x0 :: st) μ := g_iload_n (i := 1) (by decide +kernel) rfl
theorem i48_5 : m_G 48 5 [.ref a0, v1] st μ = m_G 48 6 [.ref a0, v1] (.ref a0 :: st) μ := g_aload_n (i := 0) (by decide +kernel) rfl
theorem i48_6 : m_G 48 6 L (.ref a0 :: st) μ = b_v (m_gf μ a0 6 0) 48 9 L st μ := g_getf (i := 9) (by decide +kernel) (by decide +kernel)
theorem i48_9 : m_G 48 9 L (.int x1 :: .int x0 :: st) μ = if x0 = x1 then m_G 48 33 L st μ else m_G 48 12 L st μ := g_cmpeq (off := 24) (by decide +kernel) (by decide)
theorem i48_12 : m_G 48 12 [v0, .int x0] st μ = m_G 48 13 [v0, .int x0] (.int x0 :: st) μ := g_iload_n (i := 1) (by decide +kernel) rfl
theorem i48_13 : m_G 48 13 L st μ = m_G 48 14 L (.int 1 :: st) μ := g_iconst (n := 1) (by decide +kernel) (by decide)
theorem i48_14 : m_G 48 14 L (.int x1 :: .int x0 :: st) μ = if x0 = x1 then m_G 48 17 L st μ else m_G 48 37 L st μ := g_cmpne (off := 23) (by decide +kernel) (by decide)
theorem i48_17 : m_G 48 17 [.ref a0, v1] st μ = m_G 48 18 [.ref a0, v1] (.ref a0 :: st) μ := g_aload_n (i := 0) (by decide +kernel) rfl
theorem i48_18 : m_G 48 18 L (.ref a0 :: st) μ = b_v (m_gf μ a0 6 0) 48 21 L st μ := g_getf (i := 9) (by decide +kernel) (by decide +kernel)
theorem i48_21 : m_G 48 21 L st μ = m_G 48 22 L (.int 4 :: st) μ := g_iconst (n := 4) (by decide +kernel) (by decide)
theorem i48_22 : m_G 48 22 L (.int x1 :: .int x0 :: st) μ = if x0 = x1 then m_G 48 33 L st μ else m_G 48 25 L st μ := g_cmpeq (off := 11) (by decide +kernel) (by decide)
theorem i48_25 : m_G 48 25 [.ref a0, v1] st μ = m_G 48 26 [.ref a0, v1] (.ref a0 :: st) μ := g_aload_n (i := 0) (by decide +kernel) rfl
theorem i48_26 : m_G 48 26 L (.ref a0 :: st) μ = b_v (m_gf μ a0 6 0) 48 29 L st μ := g_getf (i := 9) (by decide +kernel) (by decide +kernel)
theorem i48_29 : m_G 48 29 L st μ = m_G 48 30 L (.int 5 :: st) μ := g_iconst (n := 5) (by decide +kernel) (by decide)
theorem i48_30 : m_G 48 30 L (.int x1 :: .int x0 :: st) μ = if x0 = x1 then m_G 48 33 L st μ else m_G 48 37 L st μ := g_cmpne (off := 7) (by decide +kernel) (by decide)
theorem i48_33 : m_G 48 33 L st μ = m_G 48 34 L (.int 1 :: st) μ := g_iconst (n := 1) (by decide +kernel) (by decide)
theorem i48_34 : m_G 48 34 L st μ = m_G 48 38 L st μ := g_goto (off := 4) (by decide +kernel) (by decide)
theorem i48_37 : m_G 48 37 L st μ = m_G 48 38 L (.int 0 :: st) μ := g_iconst (n := 0) (by decide +kernel) (by decide)
theorem i48_38 (h : x0 &&& 1 = x0) : m_G 48 38 L [.int x0] μ = some (some (.int x0), μ) := g_iretz (by decide +kernel) (by decide) h
theorem D48 : m_D 48 [.ref a0, .int x0] μ = m_G 48 0 [.ref a0, .int x0] [] μ := d_def (by decide) rfl
theorem i49_0 : m_G 49 0 [v0, v1, .int x0, v3, v4] st μ = m_G 49 1 [v0, v1, .int x0, v3, v4] (.int x0 :: st) μ := g_iload_n (i := 2) (by decide +kernel) rfl
theorem i49_1 : m_G 49 1 [v0, v1, v2, v3, v4] (.int x0 :: st) μ = m_G 49 2 [v0, v1, v2, .int x0, v4] st μ := g_istore_n (i := 3) (by decide +kernel) (Nat.le_of_ble_eq_true rfl) rfl
theorem i49_2 : m_G 49 2 L st μ = m_G 49 3 L (.int 0 :: st) μ := g_iconst (n := 0) (by decide +kernel) (by decide)
theorem i49_3 : m_G 49 3 [v0, v1, v2, v3, v4] (.int x0 :: st) μ = m_G 49 5 [v0, v1, v2, v3, .int x0] st μ := g_istore (i := 4) (by decide +kernel) (Nat.le_of_ble_eq_true rfl) rfl
theorem i49_5 : m_G 49 5 [v0, v1, v2, v3, .int x0] st μ = m_G 49 7 [v0, v1, v2, v3, .int x0] (.int x0 :: st) μ := g_iload (i := 4) (by decide +kernel) rfl
theorem i49_7 : m_G 49 7 [.ref a0, v1, v2, v3, v4] st μ = m_G 49 8 [.ref a0, v1, v2, v3, v4] (.ref a0 :: st) μ := g_aload_n (i := 0) (by decide +kernel) rfl
theorem i49_8 : m_G 49 8 L (.ref a0 :: st) μ = b_v (m_gf μ a0 6 1) 49 11 L st μ := g_getf (i := 30) (by decide +kernel) (by decide +kernel)
theorem i49_11 : m_G 49 11 L (.ref a0 :: st) μ = b_n (m_ln μ a0) 49 12 L st μ := g_alen (by decide +kernel)
theorem i49_12 : m_G 49 12 L (.int x1 :: .int x0 :: st) μ = if x0 < x1 then m_G 49 15 L st μ else m_G 49 34 L st μ := g_cmpge (off := 22) (by decide +kernel) (by decide)
theorem i49_15 : m_G 49 15 [v0, .ref a0, v2, v3, v4] st μ = m_G 49 16 [v0, .ref a0, v2, v3, v4] (.ref a0 :: st) μ := g_aload_n (i := 1) (by decide +kernel) rfl
theorem i49_16 : m_G 49 16 [.ref a0, v1, v2, v3, v4] st μ = m_G 49 17 [.ref a0, v1, v2, v3, v4] (.ref a0 :: st) μ := g_aload_n (i := 0) (by decide +kernel) rfl
theorem i49_17 : m_G 49 17 L (.ref a0 :: st) μ = b_v (m_gf μ a0 6 1) 49 20 L st μ := g_getf (i := 30) (by decide +kernel) (by decide +kernel)
theorem i49_20 : m_G 49 20 [v0, v1, v2, v3, .int x0] st μ = m_G 49 22 [v0, v1, v2, v3, .int x0] (.int x0 :: st) μ := g_iload (i := 4) (by decide +kernel) rfl
theorem i49_22 : m_G 49 22 L (.int x0 :: .ref a0 :: st) μ = b_i (m_ga μ a0 x0) 49 23 L st μ := g_iald (by decide +kernel)
theorem i49_23 : m_G 49 23 [v0, v1, v2, .int x0, v4] st μ = m_G 49 24 [v0, v1, v2, .int x0, v4] (.int x0 :: st) μ := g_iload_n (i := 3) (by decide +kernel) rfl
theorem i49_24 (ho : m_oc μ a0 = some 3) : m_G 49 24 L (.int x1 :: .int x0 :: .ref a0 :: []) μ = b_c (m_D 22 [.ref a0, .int x0, .int x1] μ) 49 27 L [] := g_virt (i := 31) (n := 2) (a := a0) (c := 3) (l := [(3, 22)]) (by decide +kernel) (by decide +kernel) rfl rfl (x_call_ok (ws := [1, 1, 1]) (Nat.le_of_ble_eq_true rfl) rfl (by decide +kernel) rfl (by decide +kernel) rfl rfl) ho
theorem i49_27 : m_G 49 27 [v0, v1, v2, v3, v4] (.int x0 :: st) μ = m_G 49 28 [v0, v1, v2, .int x0, v4] st μ := g_istore_n (i := 3) (by decide +kernel) (Nat.le_of_ble_eq_true rfl) rfl
theorem i49_28 : m_G 49 28 [v0, v1, v2, v3, .int x0] st μ = m_G 49 31 [v0, v1, v2, v3, .int (x0 + 1)] st μ := g_iinc (i := 4) (n := 1) (by decide +kernel) rfl (by decide) rfl
theorem i49_31 : m_G 49 31 L st μ = m_G 49 5 L st μ := g_goto (off := -26) (by decide +kernel) (by decide)
theorem i49_34 : m_G 49 34 [v0, v1, v2, .int x0, v4] st μ = m_G 49 35 [v0, v1, v2, .int x0, v4] (.int x0 :: st) μ := g_iload_n (i := 3) (by decide +kernel) rfl
theorem i49_35 : m_G 49 35 [v0, .ref a0, v2, v3, v4] st μ = m_G 49 36 [v0, .ref a0, v2, v3, v4] (.ref a0 :: st) μ := g_aload_n (i := 1) (by decide +kernel) rfl
theorem i49_36 : m_G 49 36 L (.ref a0 :: st) μ = b_v (m_gf μ a0 3 10) 49 39 L st μ := g_getf (i := 37) (by decide +kernel) (by decide +kernel)
theorem i49_39 : m_G 49 39 L (.int x1 :: .int x0 :: st) μ = m_G 49 40 L (.int (x0 &&& x1) :: st) μ := g_iand (by decide +kernel)
theorem i49_40 : m_G 49 40 [v0, v1, v2, v3, v4] (.int x0 :: st) μ = m_G 49 42 [v0, v1, v2, v3, .int x0] st μ := g_istore (i := 4) (by decide +kernel) (Nat.le_of_ble_eq_true rfl) rfl
theorem i49_42 : m_G 49 42 [.ref a0, v1, v2, v3, v4] st μ = m_G 49 43 [.ref a0, v1, v2, v3, v4] (.ref a0 :: st) μ := g_aload_n (i := 0) (by decide +kernel) rfl
theorem i49_43 : m_G 49 43 L (.ref a0 :: st) μ = b_v (m_gf μ a0 6 0) 49 46 L st μ := g_getf (i := 9) (by decide +kernel) (by decide +kernel)
theorem i49_46_1 : m_G 49 46 L (.int 1 :: st) μ = m_G 49 80 L st μ := g_tab (dd := 63) (lo := 1) (hi := 5) (offs := #[34, 37, 42, 49, 55]) (len := 34) (off := 34) (by decide +kernel) (by decide) (by decide) (by decide)
theorem i49_46_2 : m_G 49 46 L (.int 2 :: st) μ = m_G 49 83 L st μ := g_tab (dd := 63) (lo := 1) (hi := 5) (offs := #[34, 37, 42, 49, 55]) (len := 34) (off := 37) (by decide +kernel) (by decide) (by decide) (by decide)
theorem i49_46_3 : m_G 49 46 L (.int 3 :: st) μ = m_G 49 88 L st μ := g_tab (dd := 63) (lo := 1) (hi := 5) (offs := #[34, 37, 42, 49, 55]) (len := 34) (off := 42) (by decide +kernel) (by decide) (by decide) (by decide)
theorem i49_46_4 : m_G 49 46 L (.int 4 :: st) μ = m_G 49 95 L st μ := g_tab (dd := 63) (lo := 1) (hi := 5) (offs := #[34, 37, 42, 49, 55]) (len := 34) (off := 49) (by decide +kernel) (by decide) (by decide) (by decide)
theorem i49_46_5 : m_G 49 46 L (.int 5 :: st) μ = m_G 49 101 L st μ := g_tab (dd := 63) (lo := 1) (hi := 5) (offs := #[34, 37, 42, 49, 55]) (len := 34) (off := 55) (by decide +kernel) (by decide) (by decide) (by decide)
theorem i49_46_d (h : x0.toInt < 1 ∨ 5 < x0.toInt) : m_G 49 46 L (.int x0 :: st) μ = m_G 49 109 L st μ := g_tabO (dd := 63) (lo := 1) (hi := 5) (offs := #[34, 37, 42, 49, 55]) (len := 34) (by decide +kernel) h (by decide)
theorem i49_80 : m_G 49 80 [v0, v1, v2, v3, .int x0] st μ = m_G 49 82 [v0, v1, v2, v3, .int x0] (.int x0 :: st) μ := g_iload (i := 4) (by decide +kernel) rfl
theorem i49_82 : m_G 49 82 L [.int x0] μ = some (some (.int x0), μ) := g_ireti (by decide +kernel) (by decide)
theorem i49_83 : m_G 49 83 [v0, v1, v2, .int x0, v4] st μ = m_G 49 84 [v0, v1, v2, .int x0, v4] (.int x0 :: st) μ := g_iload_n (i := 3) (by decide +kernel) rfl
theorem i49_84 : m_G 49 84 L (.int x0 :: []) μ = b_c (m_D 97 [.int x0] μ) 49 87 L [] := g_stat (i := 40) (n := 1) (by decide +kernel) (by decide +kernel) (by decide) (x_call_ok (ws := [1]) (Nat.le_of_ble_eq_true rfl) rfl (by decide +kernel) rfl (by decide +kernel) rfl rfl)
theorem i49_87 : m_G 49 87 L [.int x0] μ = some (some (.int x0), μ) := g_ireti (by decide +kernel) (by decide)
theorem i49_88 : m_G 49 88 [v0, v1, v2, .int x0, v4] st μ = m_G 49 89 [v0, v1, v2, .int x0, v4] (.int x0 :: st) μ := g_iload_n (i := 3) (by decide +kernel) rfl
theorem i49_89 : m_G 49 89 [v0, .ref a0, v2, v3, v4] st μ = m_G 49 90 [v0, .ref a0, v2, v3, v4] (.ref a0 :: st) μ := g_aload_n (i := 1) (by decide +kernel) rfl
theorem i49_90 : m_G 49 90 L (.ref a0 :: st) μ = b_v (m_gf μ a0 3 9) 49 93 L st μ := g_getf (i := 44) (by decide +kernel) (by decide +kernel)
theorem i49_93 : m_G 49 93 L (.int x1 :: .int x0 :: st) μ = m_G 49 94 L (.int (x0 &&& x1) :: st) μ := g_iand (by decide +kernel)
theorem i49_94 : m_G 49 94 L [.int x0] μ = some (some (.int x0), μ) := g_ireti (by decide +kernel) (by decide)
theorem i49_95 : m_G 49 95 [v0, v1, v2, v3, .int x0] st μ = m_G 49 97 [v0, v1, v2, v3, .int x0] (.int x0 :: st) μ := g_iload (i := 4) (by decide +kernel) rfl
theorem i49_97 : m_G 49 97 L (.int x0 :: []) μ = b_c (m_D 97 [.int x0] μ) 49 100 L [] := g_stat (i := 40) (n := 1) (by decide +kernel) (by decide +kernel) (by decide) (x_call_ok (ws := [1]) (Nat.le_of_ble_eq_true rfl) rfl (by decide +kernel) rfl (by decide +kernel) rfl rfl)
theorem i49_100 : m_G 49 100 L [.int x0] μ = some (some (.int x0), μ) := g_ireti (by decide +kernel) (by decide)
theorem i49_101 : m_G 49 101 [v0, v1, v2, v3, .int x0] st μ = m_G 49 103 [v0, v1, v2, v3, .int x0] (.int x0 :: st) μ := g_iload (i := 4) (by decide +kernel) rfl
theorem i49_103 : m_G 49 103 [v0, v1, v2, v3, .int x0] st μ = m_G 49 105 [v0, v1, v2, v3, .int x0] (.int x0 :: st) μ := g_iload (i := 4) (by decide +kernel) rfl
theorem i49_105 : m_G 49 105 L st μ = m_G 49 106 L (.int 1 :: st) μ := g_iconst (n := 1) (by decide +kernel) (by decide)
theorem i49_106 : m_G 49 106 L (.int x1 :: .int x0 :: st) μ = m_G 49 107 L (.int (x0 - x1) :: st) μ := g_isub (by decide +kernel)
theorem i49_107 : m_G 49 107 L (.int x1 :: .int x0 :: st) μ = m_G 49 108 L (.int (x0 &&& x1) :: st) μ := g_iand (by decide +kernel)
theorem i49_108 : m_G 49 108 L [.int x0] μ = some (some (.int x0), μ) := g_ireti (by decide +kernel) (by decide)
theorem i49_109 : m_G 49 109 [v0, v1, v2, .int x0, v4] st μ = m_G 49 110 [v0, v1, v2, .int x0, v4] (.int x0 :: st) μ := g_iload_n (i := 3) (by decide +kernel) rfl
theorem i49_110 : m_G 49 110 L [.int x0] μ = some (some (.int x0), μ) := g_ireti (by decide +kernel) (by decide)
theorem D49 : m_D 49 [.ref a0, .ref a1, .int x1] μ = m_G 49 0 [.ref a0, .ref a1, .int x1, m_d, m_d] [] μ := d_def (by decide) rfl
theorem i50_0 : m_G 50 0 [.ref a0, v1, v2, v3] st μ = m_G 50 1 [.ref a0, v1, v2, v3] (.ref a0 :: st) μ := g_aload_n (i := 0) (by decide +kernel) rfl
theorem i50_1 : m_G 50 1 [v0, .ref a0, v2, v3] st μ = m_G 50 2 [v0, .ref a0, v2, v3] (.ref a0 :: st) μ := g_aload_n (i := 1) (by decide +kernel) rfl
theorem i50_2 : m_G 50 2 L st μ = m_G 50 3 L (.int 1 :: st) μ := g_iconst (n := 1) (by decide +kernel) (by decide)
theorem i50_3 : m_G 50 3 [v0, v1, .int x0, v3] st μ = m_G 50 4 [v0, v1, .int x0, v3] (.int x0 :: st) μ := g_iload_n (i := 2) (by decide +kernel) rfl
theorem i50_4 : m_G 50 4 L (.int x1 :: .int x0 :: st) μ = m_G 50 5 L (.int (x0 <<< (x1 &&& 31)) :: st) μ := g_ishl (by decide +kernel)
theorem i50_5 (ho : m_oc μ a0 = some 6) : m_G 50 5 L (.int x1 :: .ref a1 :: .ref a0 :: []) μ = b_c (m_D 49 [.ref a0, .ref a1, .int x1] μ) 50 8 L [] := g_virt (i := 47) (n := 2) (a := a0) (c := 6) (l := [(6, 49)]) (by decide +kernel) (by decide +kernel) rfl rfl (x_call_ok (ws := [1, 1, 1]) (Nat.le_of_ble_eq_true rfl) rfl (by decide +kernel) rfl (by decide +kernel) rfl rfl) ho
theorem i50_8 : m_G 50 8 L st μ = m_G 50 9 L (.int 0 :: st) μ := g_iconst (n := 0) (by decide +kernel) (by decide)
theorem i50_9 : m_G 50 9 L (.int x1 :: .int x0 :: []) μ = b_c (m_D 98 [.int x0, .int x1] μ) 50 12 L [] := g_stat (i := 51) (n := 2) (by decide +kernel) (by decide +kernel) (by decide) (x_call_ok (ws := [1, 1]) (Nat.le_of_ble_eq_true rfl) rfl (by decide +kernel) rfl (by decide +kernel) rfl rfl)
theorem i50_12 : m_G 50 12 [v0, v1, v2, v3] (.int x0 :: st) μ = m_G 50 13 [v0, v1, v2, .int x0] st μ := g_istore_n (i := 3) (by decide +kernel) (Nat.le_of_ble_eq_true rfl) rfl
theorem i50_13 : m_G 50 13 [v0, v1, v2, .int x0] st μ = m_G 50 14 [v0, v1, v2, .int x0] (.int x0 :: st) μ := g_iload_n (i := 3) (by decide +kernel) rfl
theorem i50_14 : m_G 50 14 L st μ = m_G 50 15 L (.int (-1) :: st) μ := g_iconst (n := -1) (by decide +kernel) (by decide)
theorem i50_15 : m_G 50 15 L (.int x1 :: .int x0 :: st) μ = if x0 = x1 then m_G 50 18 L st μ else m_G 50 22 L st μ := g_cmpne (off := 7) (by decide +kernel) (by decide)
theorem i50_18 : m_G 50 18 L st μ = m_G 50 19 L (.int (-1) :: st) μ := g_iconst (n := -1) (by decide +kernel) (by decide)
theorem i50_19 : m_G 50 19 L st μ = m_G 50 28 L st μ := g_goto (off := 9) (by decide +kernel) (by decide)
theorem i50_22 : m_G 50 22 [v0, .ref a0, v2, v3] st μ = m_G 50 23 [v0, .ref a0, v2, v3] (.ref a0 :: st) μ := g_aload_n (i := 1) (by decide +kernel) rfl
theorem i50_23 : m_G 50 23 L (.ref a0 :: st) μ = b_v (m_gf μ a0 3 2) 50 26 L st μ := g_getf (i := 54) (by decide +kernel) (by decide +kernel)
theorem i50_26 : m_G 50 26 [v0, v1, v2, .int x0] st μ = m_G 50 27 [v0, v1, v2, .int x0] (.int x0 :: st) μ := g_iload_n (i := 3) (by decide +kernel) rfl
theorem i50_27 : m_G 50 27 L (.int x0 :: .ref a0 :: st) μ = b_i (m_ga μ a0 x0) 50 28 L st μ := g_iald (by decide +kernel)
theorem i50_28 : m_G 50 28 L [.int x0] μ = some (some (.int x0), μ) := g_ireti (by decide +kernel) (by decide)
theorem D50 : m_D 50 [.ref a0, .ref a1, .int x1] μ = m_G 50 0 [.ref a0, .ref a1, .int x1, m_d] [] μ := d_def (by decide) rfl
theorem i51_0 : m_G 51 0 [.ref a0] st μ = m_G 51 1 [.ref a0] (.ref a0 :: st) μ := g_aload_n (i := 0) (by decide +kernel) rfl
theorem i51_1 : m_G 51 1 L (.ref a0 :: []) μ = b_c (m_D 44 [.ref a0] μ) 51 4 L [] := g_spec (i := 3) (n := 0) (a := a0) (by decide +kernel) (by decide +kernel) rfl (x_call_ok (ws := [1]) (Nat.le_of_ble_eq_true rfl) rfl (by decide +kernel) rfl (by decide +kernel) rfl rfl)
theorem i51_4 : m_G 51 4 [.ref a0] st μ = m_G 51 5 [.ref a0] (.ref a0 :: st) μ := g_aload_n (i := 0) (by decide +kernel) rfl
theorem i51_5 : m_G 51 5 L st μ = m_G 51 7 L (.int 6 :: st) μ := g_bipush (n := 6) (by decide +kernel) (by decide)
theorem i51_7 : m_G 51 7 L (.int x0 :: st) μ = if x_nok x0 = true then m_G 51 9 L (.ref (mN μ) :: st) (m_new μ x0.toNatClampNeg (m_ia 0 x0.toNatClampNeg (fun _ => 0))) else none := g_newa (t := .int) (by decide +kernel) rfl
theorem i51_9 : m_G 51 9 L (w0 :: .ref a0 :: st) μ = b_m (m_pf μ a0 7 0 (.array .int) w0) 51 12 L st := g_putf (i := 9) (by decide +kernel) (by decide +kernel) (Or.inr ⟨by decide, by decide⟩) (by decide)
theorem i51_12 : m_G 51 12 L [] μ = some (none, μ) := g_ret (by decide +kernel) (by decide)
theorem D51 : m_D 51 [.ref a0] μ = m_G 51 0 [.ref a0] [] μ := d_def (by decide) rfl
theorem i52_0 : m_G 52 0 [.ref a0] st μ = m_G 52 1 [.ref a0] (.ref a0 :: st) μ := g_aload_n (i := 0) (by decide +kernel) rfl
theorem i52_1 : m_G 52 1 L st μ = m_G 52 2 L (.int 0 :: st) μ := g_iconst (n := 0) (by decide +kernel) (by decide)
theorem i52_2 : m_G 52 2 L (w0 :: .ref a0 :: st) μ = b_m (m_pf μ a0 7 1 .int w0) 52 5 L st := g_putf (i := 15) (by decide +kernel) (by decide +kernel) (Or.inl (by decide)) (by decide)
theorem i52_5 : m_G 52 5 [.ref a0] st μ = m_G 52 6 [.ref a0] (.ref a0 :: st) μ := g_aload_n (i := 0) (by decide +kernel) rfl
theorem i52_6 : m_G 52 6 L st μ = m_G 52 7 L (.int 0 :: st) μ := g_iconst (n := 0) (by decide +kernel) (by decide)
theorem i52_7 : m_G 52 7 L (w0 :: .ref a0 :: st) μ = b_m (m_pf μ a0 7 2 .boolean w0) 52 10 L st := g_putf (i := 19) (by decide +kernel) (by decide +kernel) (Or.inl (by decide)) (by decide)
theorem i52_10 : m_G 52 10 [.ref a0] st μ = m_G 52 11 [.ref a0] (.ref a0 :: st) μ := g_aload_n (i := 0) (by decide +kernel) rfl
theorem i52_11 : m_G 52 11 L st μ = m_G 52 12 L (.int 0 :: st) μ := g_iconst (n := 0) (by decide +kernel) (by decide)
theorem i52_12 : m_G 52 12 L (w0 :: .ref a0 :: st) μ = b_m (m_pf μ a0 7 3 .boolean w0) 52 15 L st := g_putf (i := 23) (by decide +kernel) (by decide +kernel) (Or.inl (by decide)) (by decide)
theorem i52_15 : m_G 52 15 L [] μ = some (none, μ) := g_ret (by decide +kernel) (by decide)
theorem D52 : m_D 52 [.ref a0] μ = m_G 52 0 [.ref a0] [] μ := d_def (by decide) rfl
theorem i53_0 : m_G 53 0 [.ref a0] st μ = m_G 53 1 [.ref a0] (.ref a0 :: st) μ := g_aload_n (i := 0) (by decide +kernel) rfl
theorem i53_1 : m_G 53 1 L (.ref a0 :: st) μ = b_v (m_gf μ a0 7 2) 53 4 L st μ := g_getf (i := 19) (by decide +kernel) (by decide +kernel)
theorem i53_4 (h : x0 &&& 1 = x0) : m_G 53 4 L [.int x0] μ = some (some (.int x0), μ) := g_iretz (by decide +kernel) (by decide) h
theorem D53 : m_D 53 [.ref a0] μ = m_G 53 0 [.ref a0] [] μ := d_def (by decide) rfl
theorem i54_0 : m_G 54 0 [.ref a0, v1] st μ = m_G 54 1 [.ref a0, v1] (.ref a0 :: st) μ := g_aload_n (i := 0) (by decide +kernel) rfl
theorem i54_1 : m_G 54 1 L (.ref a0 :: st) μ = b_v (m_gf μ a0 7 2) 54 4 L st μ := g_getf (i := 19) (by decide +kernel) (by decide +kernel)
theorem i54_4 : m_G 54 4 L (.int x0 :: st) μ = if x0 = 0 then m_G 54 33 L st μ else m_G 54 7 L st μ := g_ifeq (off := 29) (by decide +kernel) (by decide)
theorem i54_7 : m_G 54 7 [.ref a0, v1] st μ = m_G 54 8 [.ref a0, v1] (.ref a0 :: st) μ := g_aload_n (i := 0) (by decide +kernel) rfl
theorem i54_8 : m_G 54 8 L st μ = m_G 54 9 L (.int 0 :: st) μ := g_iconst (n := 0) (by decide +kernel) (by decide)
theorem i54_9 : m_G 54 9 L (w0 :: .ref a0 :: st) μ = b_m (m_pf μ a0 7 2 .boolean w0) 54 12 L st := g_putf (i := 19) (by decide +kernel) (by decide +kernel) (Or.inl (by decide)) (by decide)
theorem i54_12 : m_G 54 12 [v0, .int x0] st μ = m_G 54 13 [v0, .int x0] (.int x0 :: st) μ := g_iload_n (i := 1) (by decide +kernel) rfl
theorem i54_13 : m_G 54 13 L st μ = m_G 54 15 L (.int 47 :: st) μ := g_bipush (n := 47) (by decide +kernel) (by decide)
theorem i54_15 : m_G 54 15 L (.int x1 :: .int x0 :: st) μ = if x0 = x1 then m_G 54 18 L st μ else m_G 54 31 L st μ := g_cmpne (off := 16) (by decide +kernel) (by decide)
theorem i54_18 : m_G 54 18 [.ref a0, v1] st μ = m_G 54 19 [.ref a0, v1] (.ref a0 :: st) μ := g_aload_n (i := 0) (by decide +kernel) rfl
theorem i54_19 : m_G 54 19 L (.ref a0 :: st) μ = b_v (m_gf μ a0 7 1) 54 22 L st μ := g_getf (i := 15) (by decide +kernel) (by decide +kernel)
theorem i54_22 : m_G 54 22 L st μ = m_G 54 24 L (.int 6 :: st) μ := g_bipush (n := 6) (by decide +kernel) (by decide)
theorem i54_24 : m_G 54 24 L (.int x1 :: .int x0 :: st) μ = if x0 < x1 then m_G 54 27 L st μ else m_G 54 31 L st μ := g_cmpge (off := 7) (by decide +kernel) (by decide)
theorem i54_27 : m_G 54 27 L st μ = m_G 54 28 L (.int 1 :: st) μ := g_iconst (n := 1) (by decide +kernel) (by decide)
theorem i54_28 : m_G 54 28 L st μ = m_G 54 32 L st μ := g_goto (off := 4) (by decide +kernel) (by decide)
theorem i54_31 : m_G 54 31 L st μ = m_G 54 32 L (.int 0 :: st) μ := g_iconst (n := 0) (by decide +kernel) (by decide)
theorem i54_32 (h : x0 &&& 1 = x0) : m_G 54 32 L [.int x0] μ = some (some (.int x0), μ) := g_iretz (by decide +kernel) (by decide) h
theorem i54_33 : m_G 54 33 [.ref a0, v1] st μ = m_G 54 34 [.ref a0, v1] (.ref a0 :: st) μ := g_aload_n (i := 0) (by decide +kernel) rfl
theorem i54_34 : m_G 54 34 L (.ref a0 :: st) μ = b_v (m_gf μ a0 7 3) 54 37 L st μ := g_getf (i := 23) (by decide +kernel) (by decide +kernel)
theorem i54_37 : m_G 54 37 L (.int x0 :: st) μ = if x0 = 0 then m_G 54 72 L st μ else m_G 54 40 L st μ := g_ifeq (off := 35) (by decide +kernel) (by decide)
theorem i54_40 : m_G 54 40 [.ref a0, v1] st μ = m_G 54 41 [.ref a0, v1] (.ref a0 :: st) μ := g_aload_n (i := 0) (by decide +kernel) rfl
theorem i54_41 : m_G 54 41 L st μ = m_G 54 42 L (.int 0 :: st) μ := g_iconst (n := 0) (by decide +kernel) (by decide)
theorem i54_42 : m_G 54 42 L (w0 :: .ref a0 :: st) μ = b_m (m_pf μ a0 7 3 .boolean w0) 54 45 L st := g_putf (i := 23) (by decide +kernel) (by decide +kernel) (Or.inl (by decide)) (by decide)
theorem i54_45 : m_G 54 45 [v0, .int x0] st μ = m_G 54 46 [v0, .int x0] (.int x0 :: st) μ := g_iload_n (i := 1) (by decide +kernel) rfl
theorem i54_46 : m_G 54 46 L (.int x0 :: []) μ = b_c (m_D 45 [.int x0] μ) 54 49 L [] := g_stat (i := 26) (n := 1) (by decide +kernel) (by decide +kernel) (by decide) (x_call_ok (ws := [1]) (Nat.le_of_ble_eq_true rfl) rfl (by decide +kernel) rfl (by decide +kernel) rfl rfl)
theorem i54_49 : m_G 54 49 L (.int x0 :: st) μ = if x0 = 0 then m_G 54 70 L st μ else m_G 54 52 L st μ := g_ifeq (off := 21) (by decide +kernel) (by decide)
theorem i54_52 : m_G 54 52 [.ref a0, v1] st μ = m_G 54 53 [.ref a0, v1] (.ref a0 :: st) μ := g_aload_n (i := 0) (by decide +kernel) rfl
theorem i54_53 : m_G 54 53 L st μ = m_G 54 55 L (.int 9 :: st) μ := g_bipush (n := 9) (by decide +kernel) (by decide)
theorem i54_55 : m_G 54 55 [v0, .int x0] st μ = m_G 54 56 [v0, .int x0] (.int x0 :: st) μ := g_iload_n (i := 1) (by decide +kernel) rfl
theorem i54_56 : m_G 54 56 L (.int x1 :: .int x0 :: st) μ = m_G 54 57 L (.int (x0 + x1) :: st) μ := g_iadd (by decide +kernel)
theorem i54_57 : m_G 54 57 L st μ = m_G 54 59 L (.int 97 :: st) μ := g_bipush (n := 97) (by decide +kernel) (by decide)
theorem i54_59 : m_G 54 59 L (.int x1 :: .int x0 :: st) μ = m_G 54 60 L (.int (x0 - x1) :: st) μ := g_isub (by decide +kernel)
theorem i54_60 (ho : m_oc μ a0 = some 7) : m_G 54 60 L (.int x0 :: .ref a0 :: []) μ = b_c (m_D 56 [.ref a0, .int x0] μ) 54 63 L [] := g_virt (i := 30) (n := 1) (a := a0) (c := 7) (l := [(7, 56)]) (by decide +kernel) (by decide +kernel) rfl rfl (x_call_ok (ws := [1, 1]) (Nat.le_of_ble_eq_true rfl) rfl (by decide +kernel) rfl (by decide +kernel) rfl rfl) ho
theorem i54_63 : m_G 54 63 L (.int x0 :: st) μ = if x0 = 0 then m_G 54 70 L st μ else m_G 54 66 L st μ := g_ifeq (off := 7) (by decide +kernel) (by decide)
theorem i54_66 : m_G 54 66 L st μ = m_G 54 67 L (.int 1 :: st) μ := g_iconst (n := 1) (by decide +kernel) (by decide)
theorem i54_67 : m_G 54 67 L st μ = m_G 54 71 L st μ := g_goto (off := 4) (by decide +kernel) (by decide)
theorem i54_70 : m_G 54 70 L st μ = m_G 54 71 L (.int 0 :: st) μ := g_iconst (n := 0) (by decide +kernel) (by decide)
theorem i54_71 (h : x0 &&& 1 = x0) : m_G 54 71 L [.int x0] μ = some (some (.int x0), μ) := g_iretz (by decide +kernel) (by decide) h
theorem i54_72 : m_G 54 72 [v0, .int x0] st μ = m_G 54 73 [v0, .int x0] (.int x0 :: st) μ := g_iload_n (i := 1) (by decide +kernel) rfl
theorem i54_73 : m_G 54 73 L st μ = m_G 54 75 L (.int 42 :: st) μ := g_bipush (n := 42) (by decide +kernel) (by decide)
theorem i54_75 : m_G 54 75 L (.int x1 :: .int x0 :: st) μ = if x0 = x1 then m_G 54 78 L st μ else m_G 54 85 L st μ := g_cmpne (off := 10) (by decide +kernel) (by decide)
theorem i54_78 : m_G 54 78 [.ref a0, v1] st μ = m_G 54 79 [.ref a0, v1] (.ref a0 :: st) μ := g_aload_n (i := 0) (by decide +kernel) rfl
theorem i54_79 : m_G 54 79 L st μ = m_G 54 80 L (.int 1 :: st) μ := g_iconst (n := 1) (by decide +kernel) (by decide)
theorem i54_80 : m_G 54 80 L (w0 :: .ref a0 :: st) μ = b_m (m_pf μ a0 7 3 .boolean w0) 54 83 L st := g_putf (i := 23) (by decide +kernel) (by decide +kernel) (Or.inl (by decide)) (by decide)
theorem i54_83 : m_G 54 83 L st μ = m_G 54 84 L (.int 1 :: st) μ := g_iconst (n := 1) (by decide +kernel) (by decide)
theorem i54_84 (h : x0 &&& 1 = x0) : m_G 54 84 L [.int x0] μ = some (some (.int x0), μ) := g_iretz (by decide +kernel) (by decide) h
theorem i54_85 : m_G 54 85 [v0, .int x0] st μ = m_G 54 86 [v0, .int x0] (.int x0 :: st) μ := g_iload_n (i := 1) (by decide +kernel) rfl
theorem i54_86 : m_G 54 86 L (.int x0 :: []) μ = b_c (m_D 45 [.int x0] μ) 54 89 L [] := g_stat (i := 26) (n := 1) (by decide +kernel) (by decide +kernel) (by decide) (x_call_ok (ws := [1]) (Nat.le_of_ble_eq_true rfl) rfl (by decide +kernel) rfl (by decide +kernel) rfl rfl)
theorem i54_89 : m_G 54 89 L (.int x0 :: st) μ = if x0 = 0 then m_G 54 103 L st μ else m_G 54 92 L st μ := g_ifeq (off := 14) (by decide +kernel) (by decide)
theorem i54_92 : m_G 54 92 [.ref a0, v1] st μ = m_G 54 93 [.ref a0, v1] (.ref a0 :: st) μ := g_aload_n (i := 0) (by decide +kernel) rfl
theorem i54_93 : m_G 54 93 L st μ = m_G 54 94 L (.int 0 :: st) μ := g_iconst (n := 0) (by decide +kernel) (by decide)
theorem i54_94 : m_G 54 94 [v0, .int x0] st μ = m_G 54 95 [v0, .int x0] (.int x0 :: st) μ := g_iload_n (i := 1) (by decide +kernel) rfl
theorem i54_95 : m_G 54 95 L (.int x1 :: .int x0 :: st) μ = m_G 54 96 L (.int (x0 + x1) :: st) μ := g_iadd (by decide +kernel)
theorem i54_96 : m_G 54 96 L st μ = m_G 54 98 L (.int 97 :: st) μ := g_bipush (n := 97) (by decide +kernel) (by decide)
theorem i54_98 : m_G 54 98 L (.int x1 :: .int x0 :: st) μ = m_G 54 99 L (.int (x0 - x1) :: st) μ := g_isub (by decide +kernel)
theorem i54_99 (ho : m_oc μ a0 = some 7) : m_G 54 99 L (.int x0 :: .ref a0 :: []) μ = b_c (m_D 56 [.ref a0, .int x0] μ) 54 102 L [] := g_virt (i := 30) (n := 1) (a := a0) (c := 7) (l := [(7, 56)]) (by decide +kernel) (by decide +kernel) rfl rfl (x_call_ok (ws := [1, 1]) (Nat.le_of_ble_eq_true rfl) rfl (by decide +kernel) rfl (by decide +kernel) rfl rfl) ho
theorem i54_102 (h : x0 &&& 1 = x0) : m_G 54 102 L [.int x0] μ = some (some (.int x0), μ) := g_iretz (by decide +kernel) (by decide) h
theorem i54_103 : m_G 54 103 [v0, .int x0] st μ = m_G 54 104 [v0, .int x0] (.int x0 :: st) μ := g_iload_n (i := 1) (by decide +kernel) rfl
theorem i54_104 : m_G 54 104 L (.int x0 :: []) μ = b_c (m_D 46 [.int x0] μ) 54 107 L [] := g_stat (i := 33) (n := 1) (by decide +kernel) (by decide +kernel) (by decide) (x_call_ok (ws := [1]) (Nat.le_of_ble_eq_true rfl) rfl (by decide +kernel) rfl (by decide +kernel) rfl rfl)
theorem i54_107 : m_G 54 107 L (.int x0 :: st) μ = if x0 = 0 then m_G 54 122 L st μ else m_G 54 110 L st μ := g_ifeq (off := 15) (by decide +kernel) (by decide)
theorem i54_110 : m_G 54 110 [.ref a0, v1] st μ = m_G 54 111 [.ref a0, v1] (.ref a0 :: st) μ := g_aload_n (i := 0) (by decide +kernel) rfl
theorem i54_111 : m_G 54 111 [v0, .int x0] st μ = m_G 54 112 [v0, .int x0] (.int x0 :: st) μ := g_iload_n (i := 1) (by decide +kernel) rfl
theorem i54_112 : m_G 54 112 L st μ = m_G 54 114 L (.int 48 :: st) μ := g_bipush (n := 48) (by decide +kernel) (by decide)
theorem i54_114 : m_G 54 114 L (.int x1 :: .int x0 :: st) μ = m_G 54 115 L (.int (x0 - x1) :: st) μ := g_isub (by decide +kernel)
theorem i54_115 : m_G 54 115 L (.int x0 :: [w0]) μ = b_c (m_D 55 [.int x0] μ) 54 118 L [w0] := g_stat (i := 36) (n := 1) (by decide +kernel) (by decide +kernel) (by decide) (x_call_ok (ws := [1]) (Nat.le_of_ble_eq_true rfl) rfl (by decide +kernel) rfl (by decide +kernel) rfl rfl)
theorem i54_118 (ho : m_oc μ a0 = some 7) : m_G 54 118 L (.int x0 :: .ref a0 :: []) μ = b_c (m_D 56 [.ref a0, .int x0] μ) 54 121 L [] := g_virt (i := 30) (n := 1) (a := a0) (c := 7) (l := [(7, 56)]) (by decide +kernel) (by decide +kernel) rfl rfl (x_call_ok (ws := [1, 1]) (Nat.le_of_ble_eq_true rfl) rfl (by decide +kernel) rfl (by decide +kernel) rfl rfl) ho
theorem i54_121 (h : x0 &&& 1 = x0) : m_G 54 121 L [.int x0] μ = some (some (.int x0), μ) := g_iretz (by decide +kernel) (by decide) h
theorem i54_122 : m_G 54 122 [v0, .int x0] st μ = m_G 54 123 [v0, .int x0] (.int x0 :: st) μ := g_iload_n (i := 1) (by decide +kernel) rfl
theorem i54_123 : m_G 54 123 L st μ = m_G 54 125 L (.int 62 :: st) μ := g_bipush (n := 62) (by decide +kernel) (by decide)
theorem i54_125 : m_G 54 125 L (.int x1 :: .int x0 :: st) μ = if x0 = x1 then m_G 54 128 L st μ else m_G 54 141 L st μ := g_cmpne (off := 16) (by decide +kernel) (by decide)
theorem i54_128 : m_G 54 128 [.ref a0, v1] st μ = m_G 54 129 [.ref a0, v1] (.ref a0 :: st) μ := g_aload_n (i := 0) (by decide +kernel) rfl
theorem i54_129 : m_G 54 129 L st μ = m_G 54 131 L (.int 14 :: st) μ := g_bipush (n := 14) (by decide +kernel) (by decide)
theorem i54_131 (ho : m_oc μ a0 = some 7) : m_G 54 131 L (.int x0 :: .ref a0 :: []) μ = b_c (m_D 56 [.ref a0, .int x0] μ) 54 134 L [] := g_virt (i := 30) (n := 1) (a := a0) (c := 7) (l := [(7, 56)]) (by decide +kernel) (by decide +kernel) rfl rfl (x_call_ok (ws := [1, 1]) (Nat.le_of_ble_eq_true rfl) rfl (by decide +kernel) rfl (by decide +kernel) rfl rfl) ho
theorem i54_134 : m_G 54 134 L (.int x0 :: st) μ = if x0 = 0 then m_G 54 141 L st μ else m_G 54 137 L st μ := g_ifeq (off := 7) (by decide +kernel) (by decide)
theorem i54_137 : m_G 54 137 L st μ = m_G 54 138 L (.int 1 :: st) μ := g_iconst (n := 1) (by decide +kernel) (by decide)
theorem i54_138 : m_G 54 138 L st μ = m_G 54 142 L st μ := g_goto (off := 4) (by decide +kernel) (by decide)
theorem i54_141 : m_G 54 141 L st μ = m_G 54 142 L (.int 0 :: st) μ := g_iconst (n := 0) (by decide +kernel) (by decide)
theorem i54_142 (h : x0 &&& 1 = x0) : m_G 54 142 L [.int x0] μ = some (some (.int x0), μ) := g_iretz (by decide +kernel) (by decide) h
theorem D54 : m_D 54 [.ref a0, .int x0] μ = m_G 54 0 [.ref a0, .int x0] [] μ := d_def (by decide) rfl
theorem i55_0 : m_G 55 0 [.int x0] st μ = m_G 55 1 [.int x0] (.int x0 :: st) μ := g_iload_n (i := 0) (by decide +kernel) rfl
theorem i55_1 : m_G 55 1 L st μ = m_G 55 2 L (.int 4 :: st) μ := g_iconst (n := 4) (by decide +kernel) (by decide)
theorem i55_2 : m_G 55 2 L (.int x1 :: .int x0 :: st) μ = if x0 < x1 then m_G 55 5 L st μ else m_G 55 11 L st μ := g_cmpge (off := 9) (by decide +kernel) (by decide)
theorem i55_5 : m_G 55 5 L st μ = m_G 55 6 L (.int 5 :: st) μ := g_iconst (n := 5) (by decide +kernel) (by decide)
theorem i55_6 : m_G 55 6 [.int x0] st μ = m_G 55 7 [.int x0] (.int x0 :: st) μ := g_iload_n (i := 0) (by decide +kernel) rfl
theorem i55_7 : m_G 55 7 L (.int x1 :: .int x0 :: st) μ = m_G 55 8 L (.int (x0 + x1) :: st) μ := g_iadd (by decide +kernel)
theorem i55_8 : m_G 55 8 L st μ = m_G 55 17 L st μ := g_goto (off := 9) (by decide +kernel) (by decide)
theorem i55_11 : m_G 55 11 L st μ = m_G 55 13 L (.int 15 :: st) μ := g_bipush (n := 15) (by decide +kernel) (by decide)
theorem i55_13 : m_G 55 13 [.int x0] st μ = m_G 55 14 [.int x0] (.int x0 :: st) μ := g_iload_n (i := 0) (by decide +kernel) rfl
theorem i55_14 : m_G 55 14 L (.int x1 :: .int x0 :: st) μ = m_G 55 15 L (.int (x0 + x1) :: st) μ := g_iadd (by decide +kernel)
theorem i55_15 : m_G 55 15 L st μ = m_G 55 16 L (.int 4 :: st) μ := g_iconst (n := 4) (by decide +kernel) (by decide)
theorem i55_16 : m_G 55 16 L (.int x1 :: .int x0 :: st) μ = m_G 55 17 L (.int (x0 - x1) :: st) μ := g_isub (by decide +kernel)
theorem i55_17 : m_G 55 17 L [.int x0] μ = some (some (.int x0), μ) := g_ireti (by decide +kernel) (by decide)
theorem D55 : m_D 55 [.int x0] μ = m_G 55 0 [.int x0] [] μ := d_def (by decide) rfl
theorem i56_0 : m_G 56 0 [.ref a0, v1] st μ = m_G 56 1 [.ref a0, v1] (.ref a0 :: st) μ := g_aload_n (i := 0) (by decide +kernel) rfl
theorem i56_1 : m_G 56 1 L (.ref a0 :: st) μ = b_v (m_gf μ a0 7 1) 56 4 L st μ := g_getf (i := 15) (by decide +kernel) (by decide +kernel)
theorem i56_4 : m_G 56 4 L st μ = m_G 56 6 L (.int 6 :: st) μ := g_bipush (n := 6) (by decide +kernel) (by decide)
theorem i56_6 : m_G 56 6 L (.int x1 :: .int x0 :: st) μ = if x0 < x1 then m_G 56 11 L st μ else m_G 56 9 L st μ := g_cmplt (off := 5) (by decide +kernel) (by decide)
theorem i56_9 : m_G 56 9 L st μ = m_G 56 10 L (.int 0 :: st) μ := g_iconst (n := 0) (by decide +kernel) (by decide)
theorem i56_10 (h : x0 &&& 1 = x0) : m_G 56 10 L [.int x0] μ = some (some (.int x0), μ) := g_iretz (by decide +kernel) (by decide) h
theorem i56_11 : m_G 56 11 [.ref a0, v1] st μ = m_G 56 12 [.ref a0, v1] (.ref a0 :: st) μ := g_aload_n (i := 0) (by decide +kernel) rfl
theorem i56_12 : m_G 56 12 L (.ref a0 :: st) μ = b_v (m_gf μ a0 7 0) 56 15 L st μ := g_getf (i := 9) (by decide +kernel) (by decide +kernel)
theorem i56_15 : m_G 56 15 [.ref a0, v1] st μ = m_G 56 16 [.ref a0, v1] (.ref a0 :: st) μ := g_aload_n (i := 0) (by decide +kernel) rfl
theorem i56_16 : m_G 56 16 L (.ref a0 :: st) μ = b_v (m_gf μ a0 7 1) 56 19 L st μ := g_getf (i := 15) (by decide +kernel) (by decide +kernel)
theorem i56_19 : m_G 56 19 [v0, .int x0] st μ = m_G 56 20 [v0, .int x0] (.int x0 :: st) μ := g_iload_n (i := 1) (by decide +kernel) rfl
theorem i56_20 : m_G 56 20 L (.int x1 :: .int x0 :: .ref a0 :: st) μ = b_m (m_pa μ a0 x0 x1) 56 21 L st := g_iast (by decide +kernel)
theorem i56_21 : m_G 56 21 [.ref a0, v1] st μ = m_G 56 22 [.ref a0, v1] (.ref a0 :: st) μ := g_aload_n (i := 0) (by decide +kernel) rfl
theorem i56_22 : m_G 56 22 L (.ref a0 :: st) μ = m_G 56 23 L (.ref a0 :: .ref a0 :: st) μ := g_dupr (by decide +kernel)
theorem i56_22I : m_G 56 22 L (.int x0 :: st) μ = m_G 56 23 L (.int x0 :: .int x0 :: st) μ := g_dupi (by decide +kernel)
theorem i56_23 : m_G 56 23 L (.ref a0 :: st) μ = b_v (m_gf μ a0 7 1) 56 26 L st μ := g_getf (i := 15) (by decide +kernel) (by decide +kernel)
theorem i56_26 : m_G 56 26 L st μ = m_G 56 27 L (.int 1 :: st) μ := g_iconst (n := 1) (by decide +kernel) (by decide)
theorem i56_27 : m_G 56 27 L (.int x1 :: .int x0 :: st) μ = m_G 56 28 L (.int (x0 + x1) :: st) μ := g_iadd (by decide +kernel)
theorem i56_28 : m_G 56 28 L (w0 :: .ref a0 :: st) μ = b_m (m_pf μ a0 7 1 .int w0) 56 31 L st := g_putf (i := 15) (by decide +kernel) (by decide +kernel) (Or.inl (by decide)) (by decide)
theorem i56_31 : m_G 56 31 [.ref a0, v1] st μ = m_G 56 32 [.ref a0, v1] (.ref a0 :: st) μ := g_aload_n (i := 0) (by decide +kernel) rfl
theorem i56_32 : m_G 56 32 L st μ = m_G 56 33 L (.int 1 :: st) μ := g_iconst (n := 1) (by decide +kernel) (by decide)
theorem i56_33 : m_G 56 33 L (w0 :: .ref a0 :: st) μ = b_m (m_pf μ a0 7 2 .boolean w0) 56 36 L st := g_putf (i := 19) (by decide +kernel) (by decide +kernel) (Or.inl (by decide)) (by decide)
theorem i56_36 : m_G 56 36 L st μ = m_G 56 37 L (.int 1 :: st) μ := g_iconst (n := 1) (by decide +kernel) (by decide)
theorem i56_37 (h : x0 &&& 1 = x0) : m_G 56 37 L [.int x0] μ = some (some (.int x0), μ) := g_iretz (by decide +kernel) (by decide) h
theorem D56 : m_D 56 [.ref a0, .int x0] μ = m_G 56 0 [.ref a0, .int x0] [] μ := d_def (by decide) rfl
theorem i57_0 : m_G 57 0 [.ref a0] st μ = m_G 57 1 [.ref a0] (.ref a0 :: st) μ := g_aload_n (i := 0) (by decide +kernel) rfl
theorem i57_1 : m_G 57 1 L (.ref a0 :: []) μ = m_G 57 4 L [] μ := g_obj (i := 3) (by decide +kernel) (by decide +kernel) ⟨Nat.le_of_ble_eq_true rfl, by decide, by decide⟩
theorem i57_4 : m_G 57 4 [.ref a0] st μ = m_G 57 5 [.ref a0] (.ref a0 :: st) μ := g_aload_n (i := 0) (by decide +kernel) rfl
theorem i57_5 : m_G 57 5 L st μ = m_G 57 7 L (.int 90 :: st) μ := g_bipush (n := 90) (by decide +kernel) (by decide)
theorem i57_7 : m_G 57 7 L (.int x0 :: st) μ = if x_nok x0 = true then m_G 57 9 L (.ref (mN μ) :: st) (m_new μ x0.toNatClampNeg (m_ia 2 x0.toNatClampNeg (fun _ => 0))) else none := g_newa (t := .byte) (by decide +kernel) rfl
theorem i57_9 : m_G 57 9 L (w0 :: .ref a0 :: st) μ = b_m (m_pf μ a0 8 0 (.array .byte) w0) 57 12 L st := g_putf (i := 9) (by decide +kernel) (by decide +kernel) (Or.inr ⟨by decide, by decide⟩) (by decide)
theorem i57_12 : m_G 57 12 [.ref a0] st μ = m_G 57 13 [.ref a0] (.ref a0 :: st) μ := g_aload_n (i := 0) (by decide +kernel) rfl
theorem i57_13 : m_G 57 13 L st μ = m_G 57 15 L (.int 8 :: st) μ := g_bipush (n := 8) (by decide +kernel) (by decide)
theorem i57_15 (h : x_nok x0 = true) : m_G 57 15 L (.int x0 :: st) μ = m_G 57 18 L (.ref (mN μ) :: st) (m_new μ x0.toNatClampNeg (m_ra 3 x0.toNatClampNeg (fun _ => none))) := g_anew (i := 13) (by decide +kernel) (by decide +kernel) (by decide) h
theorem i57_18 : m_G 57 18 L (w0 :: .ref a0 :: st) μ = b_m (m_pf μ a0 8 2 (.array (.object "RowsDrawn$Page")) w0) 57 21 L st := g_putf (i := 15) (by decide +kernel) (by decide +kernel) (Or.inr ⟨by decide, by decide⟩) (by decide)
theorem i57_21 : m_G 57 21 [.ref a0] st μ = m_G 57 22 [.ref a0] (.ref a0 :: st) μ := g_aload_n (i := 0) (by decide +kernel) rfl
theorem i57_22 : m_G 57 22 L st μ = m_G 57 24 L (.int 10 :: st) μ := g_bipush (n := 10) (by decide +kernel) (by decide)
theorem i57_24 (h : x_nok x0 = true) : m_G 57 24 L (.int x0 :: st) μ = m_G 57 27 L (.ref (mN μ) :: st) (m_new μ x0.toNatClampNeg (m_ra 6 x0.toNatClampNeg (fun _ => none))) := g_anew (i := 19) (by decide +kernel) (by decide +kernel) (by decide) h
theorem i57_27 : m_G 57 27 L (w0 :: .ref a0 :: st) μ = b_m (m_pf μ a0 8 4 (.array (.object "RowsDrawn$Rule")) w0) 57 30 L st := g_putf (i := 21) (by decide +kernel) (by decide +kernel) (Or.inr ⟨by decide, by decide⟩) (by decide)
theorem i57_30 : m_G 57 30 [.ref a0] st μ = m_G 57 31 [.ref a0] (.ref a0 :: st) μ := g_aload_n (i := 0) (by decide +kernel) rfl
theorem i57_31 : m_G 57 31 L st μ = m_G 57 33 L (.int 8 :: st) μ := g_bipush (n := 8) (by decide +kernel) (by decide)
theorem i57_33 (h : x_nok x0 = true) : m_G 57 33 L (.int x0 :: st) μ = m_G 57 36 L (.ref (mN μ) :: st) (m_new μ x0.toNatClampNeg (m_ra 1 x0.toNatClampNeg (fun _ => none))) := g_anew (i := 25) (by decide +kernel) (by decide +kernel) (by decide) h
theorem i57_36 : m_G 57 36 L (w0 :: .ref a0 :: st) μ = b_m (m_pf μ a0 8 6 (.array (.object "RowsDrawn$Law")) w0) 57 39 L st := g_putf (i := 27) (by decide +kernel) (by decide +kernel) (Or.inr ⟨by decide, by decide⟩) (by decide)
theorem i57_39 : m_G 57 39 [.ref a0] st μ = m_G 57 40 [.ref a0] (.ref a0 :: st) μ := g_aload_n (i := 0) (by decide +kernel) rfl
theorem i57_40 : m_G 57 40 L st μ = m_G 57 43 L (.ref (mN μ) :: st) (m_new μ 8 (m_ob 4 [.null, .null, .null, .int 0, .int 0, .int 0, .int 0, .int 0])) := g_new (i := 31) (by decide +kernel) (by decide +kernel) rfl (by decide +kernel)
theorem i57_43 : m_G 57 43 L (.ref a0 :: st) μ = m_G 57 44 L (.ref a0 :: .ref a0 :: st) μ := g_dupr (by decide +kernel)
theorem i57_43I : m_G 57 43 L (.int x0 :: st) μ = m_G 57 44 L (.int x0 :: .int x0 :: st) μ := g_dupi (by decide +kernel)
theorem i57_44 : m_G 57 44 L (.ref a0 :: [w0, w1]) μ = b_c (m_D 30 [.ref a0] μ) 57 47 L [w0, w1] := g_spec (i := 33) (n := 0) (a := a0) (by decide +kernel) (by decide +kernel) rfl (x_call_ok (ws := [1]) (Nat.le_of_ble_eq_true rfl) rfl (by decide +kernel) rfl (by decide +kernel) rfl rfl)
theorem i57_47 : m_G 57 47 L (w0 :: .ref a0 :: st) μ = b_m (m_pf μ a0 8 8 (.object "RowsDrawn$PageReader") w0) 57 50 L st := g_putf (i := 34) (by decide +kernel) (by decide +kernel) (Or.inr ⟨by decide, by decide⟩) (by decide)
theorem i57_50 : m_G 57 50 [.ref a0] st μ = m_G 57 51 [.ref a0] (.ref a0 :: st) μ := g_aload_n (i := 0) (by decide +kernel) rfl
theorem i57_51 : m_G 57 51 L st μ = m_G 57 54 L (.ref (mN μ) :: st) (m_new μ 4 (m_ob 7 [.null, .int 0, .int 0, .int 0])) := g_new (i := 38) (by decide +kernel) (by decide +kernel) rfl (by decide +kernel)
theorem i57_54 : m_G 57 54 L (.ref a0 :: st) μ = m_G 57 55 L (.ref a0 :: .ref a0 :: st) μ := g_dupr (by decide +kernel)
theorem i57_54I : m_G 57 54 L (.int x0 :: st) μ = m_G 57 55 L (.int x0 :: .int x0 :: st) μ := g_dupi (by decide +kernel)
theorem i57_55 : m_G 57 55 L (.ref a0 :: [w0, w1]) μ = b_c (m_D 51 [.ref a0] μ) 57 58 L [w0, w1] := g_spec (i := 40) (n := 0) (a := a0) (by decide +kernel) (by decide +kernel) rfl (x_call_ok (ws := [1]) (Nat.le_of_ble_eq_true rfl) rfl (by decide +kernel) rfl (by decide +kernel) rfl rfl)
theorem i57_58 : m_G 57 58 L (w0 :: .ref a0 :: st) μ = b_m (m_pf μ a0 8 9 (.object "RowsDrawn$RuleReader") w0) 57 61 L st := g_putf (i := 41) (by decide +kernel) (by decide +kernel) (Or.inr ⟨by decide, by decide⟩) (by decide)
theorem i57_61 : m_G 57 61 [.ref a0] st μ = m_G 57 62 [.ref a0] (.ref a0 :: st) μ := g_aload_n (i := 0) (by decide +kernel) rfl
theorem i57_62 : m_G 57 62 L st μ = m_G 57 65 L (.ref (mN μ) :: st) (m_new μ 7 (m_ob 0 [.int 0, .int 0, .int 0, .int 0, .int 0, .null, .null])) := g_new (i := 45) (by decide +kernel) (by decide +kernel) rfl (by decide +kernel)
theorem i57_65 : m_G 57 65 L (.ref a0 :: st) μ = m_G 57 66 L (.ref a0 :: .ref a0 :: st) μ := g_dupr (by decide +kernel)
theorem i57_65I : m_G 57 65 L (.int x0 :: st) μ = m_G 57 66 L (.int x0 :: .int x0 :: st) μ := g_dupi (by decide +kernel)
theorem i57_66 : m_G 57 66 L (.ref a0 :: [w0, w1]) μ = b_c (m_D 0 [.ref a0] μ) 57 69 L [w0, w1] := g_spec (i := 47) (n := 0) (a := a0) (by decide +kernel) (by decide +kernel) rfl (x_call_ok (ws := [1]) (Nat.le_of_ble_eq_true rfl) rfl (by decide +kernel) rfl (by decide +kernel) rfl rfl)
theorem i57_69 : m_G 57 69 L (w0 :: .ref a0 :: st) μ = b_m (m_pf μ a0 8 10 (.object "RowsDrawn$Fitting") w0) 57 72 L st := g_putf (i := 48) (by decide +kernel) (by decide +kernel) (Or.inr ⟨by decide, by decide⟩) (by decide)
theorem i57_72 : m_G 57 72 [.ref a0] st μ = m_G 57 73 [.ref a0] (.ref a0 :: st) μ := g_aload_n (i := 0) (by decide +kernel) rfl
theorem i57_73 : m_G 57 73 L st μ = m_G 57 76 L (.ref (mN μ) :: st) (m_new μ 4 (m_ob 2 [.int 0, .int 0, .int 0, .int 0])) := g_new (i := 52) (by decide +kernel) (by decide +kernel) rfl (by decide +kernel)
theorem i57_76 : m_G 57 76 L (.ref a0 :: st) μ = m_G 57 77 L (.ref a0 :: .ref a0 :: st) μ := g_dupr (by decide +kernel)
theorem i57_76I : m_G 57 76 L (.int x0 :: st) μ = m_G 57 77 L (.int x0 :: .int x0 :: st) μ := g_dupi (by decide +kernel)
theorem i57_77 : m_G 57 77 L (.ref a0 :: [w0, w1]) μ = b_c (m_D 12 [.ref a0] μ) 57 80 L [w0, w1] := g_spec (i := 54) (n := 0) (a := a0) (by decide +kernel) (by decide +kernel) rfl (x_call_ok (ws := [1]) (Nat.le_of_ble_eq_true rfl) rfl (by decide +kernel) rfl (by decide +kernel) rfl rfl)
theorem i57_80 : m_G 57 80 L (w0 :: .ref a0 :: st) μ = b_m (m_pf μ a0 8 12 (.object "RowsDrawn$Mending") w0) 57 83 L st := g_putf (i := 55) (by decide +kernel) (by decide +kernel) (Or.inr ⟨by decide, by decide⟩) (by decide)
theorem i57_83 : m_G 57 83 [.ref a0] st μ = m_G 57 84 [.ref a0] (.ref a0 :: st) μ := g_aload_n (i := 0) (by decide +kernel) rfl
theorem i57_84 : m_G 57 84 L st μ = m_G 57 87 L (.ref (mN μ) :: st) (m_new μ 2 (m_ob 5 [.null, .null])) := g_new (i := 59) (by decide +kernel) (by decide +kernel) rfl (by decide +kernel)
theorem i57_87 : m_G 57 87 L (.ref a0 :: st) μ = m_G 57 88 L (.ref a0 :: .ref a0 :: st) μ := g_dupr (by decide +kernel)
theorem i57_87I : m_G 57 87 L (.int x0 :: st) μ = m_G 57 88 L (.int x0 :: .int x0 :: st) μ := g_dupi (by decide +kernel)
theorem i57_88 : m_G 57 88 L (.ref a0 :: [w0, w1]) μ = b_c (m_D 39 [.ref a0] μ) 57 91 L [w0, w1] := g_spec (i := 61) (n := 0) (a := a0) (by decide +kernel) (by decide +kernel) rfl (x_call_ok (ws := [1]) (Nat.le_of_ble_eq_true rfl) rfl (by decide +kernel) rfl (by decide +kernel) rfl rfl)
theorem i57_91 : m_G 57 91 L (w0 :: .ref a0 :: st) μ = b_m (m_pf μ a0 8 13 (.object "RowsDrawn$Pairing") w0) 57 94 L st := g_putf (i := 62) (by decide +kernel) (by decide +kernel) (Or.inr ⟨by decide, by decide⟩) (by decide)
theorem i57_94 : m_G 57 94 [.ref a0] st μ = m_G 57 95 [.ref a0] (.ref a0 :: st) μ := g_aload_n (i := 0) (by decide +kernel) rfl
theorem i57_95 : m_G 57 95 L st μ = m_G 57 97 L (.int 24 :: st) μ := g_bipush (n := 24) (by decide +kernel) (by decide)
theorem i57_97 : m_G 57 97 L (.int x0 :: st) μ = if x_nok x0 = true then m_G 57 99 L (.ref (mN μ) :: st) (m_new μ x0.toNatClampNeg (m_ia 0 x0.toNatClampNeg (fun _ => 0))) else none := g_newa (t := .int) (by decide +kernel) rfl
theorem i57_99 : m_G 57 99 L (w0 :: .ref a0 :: st) μ = b_m (m_pf μ a0 8 14 (.array .int) w0) 57 102 L st := g_putf (i := 66) (by decide +kernel) (by decide +kernel) (Or.inr ⟨by decide, by decide⟩) (by decide)
theorem i57_102 : m_G 57 102 L [] μ = some (none, μ) := g_ret (by decide +kernel) (by decide)
theorem D57 : m_D 57 [.ref a0] μ = m_G 57 0 [.ref a0] [] μ := d_def (by decide) rfl
theorem i58_0 : m_G 58 0 L st μ = m_G 58 1 L (.int 0 :: st) μ := g_iconst (n := 0) (by decide +kernel) (by decide)
theorem i58_1 : m_G 58 1 [v0, v1, v2, v3, v4, v5, v6] (.int x0 :: st) μ = m_G 58 2 [v0, v1, v2, .int x0, v4, v5, v6] st μ := g_istore_n (i := 3) (by decide +kernel) (Nat.le_of_ble_eq_true rfl) rfl
theorem i58_2 : m_G 58 2 L st μ = m_G 58 3 L (.int 0 :: st) μ := g_iconst (n := 0) (by decide +kernel) (by decide)
theorem i58_3 : m_G 58 3 [v0, v1, v2, v3, v4, v5, v6] (.int x0 :: st) μ = m_G 58 5 [v0, v1, v2, v3, .int x0, v5, v6] st μ := g_istore (i := 4) (by decide +kernel) (Nat.le_of_ble_eq_true rfl) rfl
theorem i58_5 : m_G 58 5 L st μ = m_G 58 6 L (.int 0 :: st) μ := g_iconst (n := 0) (by decide +kernel) (by decide)
theorem i58_6 : m_G 58 6 [v0, v1, v2, v3, v4, v5, v6] (.int x0 :: st) μ = m_G 58 8 [v0, v1, v2, v3, v4, .int x0, v6] st μ := g_istore (i := 5) (by decide +kernel) (Nat.le_of_ble_eq_true rfl) rfl
theorem i58_8 : m_G 58 8 [v0, v1, v2, v3, v4, .int x0, v6] st μ = m_G 58 10 [v0, v1, v2, v3, v4, .int x0, v6] (.int x0 :: st) μ := g_iload (i := 5) (by decide +kernel) rfl
theorem i58_10 : m_G 58 10 L st μ = m_G 58 12 L (.int 8 :: st) μ := g_bipush (n := 8) (by decide +kernel) (by decide)
theorem i58_12 : m_G 58 12 L (.int x1 :: .int x0 :: st) μ = if x0 < x1 then m_G 58 15 L st μ else m_G 58 63 L st μ := g_cmpge (off := 51) (by decide +kernel) (by decide)
theorem i58_15 : m_G 58 15 [v0, .long l0, v2, v3, v4, v5, v6] st μ = m_G 58 16 [v0, .long l0, v2, v3, v4, v5, v6] (.long l0 :: st) μ := g_lload_n (i := 1) (by decide +kernel) rfl
theorem i58_16 : m_G 58 16 [v0, v1, v2, v3, v4, .int x0, v6] st μ = m_G 58 18 [v0, v1, v2, v3, v4, .int x0, v6] (.int x0 :: st) μ := g_iload (i := 5) (by decide +kernel) rfl
theorem i58_18 : m_G 58 18 L (.int x1 :: .long l0 :: []) μ = b_c (m_D 59 [.long l0, .int x1] μ) 58 21 L [] := g_stat (i := 70) (n := 2) (by decide +kernel) (by decide +kernel) (by decide) (x_call_ok (ws := [2, 1]) (Nat.le_of_ble_eq_true rfl) rfl (by decide +kernel) rfl (by decide +kernel) rfl rfl)
theorem i58_21 : m_G 58 21 [v0, v1, v2, v3, v4, v5, v6] (.int x0 :: st) μ = m_G 58 23 [v0, v1, v2, v3, v4, v5, .int x0] st μ := g_istore (i := 6) (by decide +kernel) (Nat.le_of_ble_eq_true rfl) rfl
theorem i58_23 : m_G 58 23 [v0, v1, v2, v3, v4, v5, .int x0] st μ = m_G 58 25 [v0, v1, v2, v3, v4, v5, .int x0] (.int x0 :: st) μ := g_iload (i := 6) (by decide +kernel) rfl
theorem i58_25 : m_G 58 25 L st μ = m_G 58 27 L (.int 126 :: st) μ := g_bipush (n := 126) (by decide +kernel) (by decide)
theorem i58_27 : m_G 58 27 L (.int x1 :: .int x0 :: st) μ = if x1 < x0 then m_G 58 40 L st μ else m_G 58 30 L st μ := g_cmpgt (off := 13) (by decide +kernel) (by decide)
theorem i58_30 : m_G 58 30 [v0, v1, v2, v3, .int x0, v5, v6] st μ = m_G 58 32 [v0, v1, v2, v3, .int x0, v5, v6] (.int x0 :: st) μ := g_iload (i := 4) (by decide +kernel) rfl
theorem i58_32 : m_G 58 32 L (.int x0 :: st) μ = if x0 = 0 then m_G 58 43 L st μ else m_G 58 35 L st μ := g_ifeq (off := 11) (by decide +kernel) (by decide)
theorem i58_35 : m_G 58 35 [v0, v1, v2, v3, v4, v5, .int x0] st μ = m_G 58 37 [v0, v1, v2, v3, v4, v5, .int x0] (.int x0 :: st) μ := g_iload (i := 6) (by decide +kernel) rfl
theorem i58_37 : m_G 58 37 L (.int x0 :: st) μ = if x0 = 0 then m_G 58 43 L st μ else m_G 58 40 L st μ := g_ifeq (off := 6) (by decide +kernel) (by decide)
theorem i58_40 : m_G 58 40 L st μ = m_G 58 42 L (.int (-102) :: st) μ := g_bipush (n := -102) (by decide +kernel) (by decide)
theorem i58_42 : m_G 58 42 L [.int x0] μ = some (some (.int x0), μ) := g_ireti (by decide +kernel) (by decide)
theorem i58_43 : m_G 58 43 [v0, v1, v2, v3, v4, v5, .int x0] st μ = m_G 58 45 [v0, v1, v2, v3, v4, v5, .int x0] (.int x0 :: st) μ := g_iload (i := 6) (by decide +kernel) rfl
theorem i58_45 : m_G 58 45 L (.int x0 :: st) μ = if x0 = 0 then m_G 58 48 L st μ else m_G 58 54 L st μ := g_ifne (off := 9) (by decide +kernel) (by decide)
theorem i58_48 : m_G 58 48 L st μ = m_G 58 49 L (.int 1 :: st) μ := g_iconst (n := 1) (by decide +kernel) (by decide)
theorem i58_49 : m_G 58 49 [v0, v1, v2, v3, v4, v5, v6] (.int x0 :: st) μ = m_G 58 51 [v0, v1, v2, v3, .int x0, v5, v6] st μ := g_istore (i := 4) (by decide +kernel) (Nat.le_of_ble_eq_true rfl) rfl
theorem i58_51 : m_G 58 51 L st μ = m_G 58 57 L st μ := g_goto (off := 6) (by decide +kernel) (by decide)
theorem i58_54 : m_G 58 54 [v0, v1, v2, .int x0, v4, v5, v6] st μ = m_G 58 57 [v0, v1, v2, .int (x0 + 1), v4, v5, v6] st μ := g_iinc (i := 3) (n := 1) (by decide +kernel) rfl (by decide) rfl
theorem i58_57 : m_G 58 57 [v0, v1, v2, v3, v4, .int x0, v6] st μ = m_G 58 60 [v0, v1, v2, v3, v4, .int (x0 + 1), v6] st μ := g_iinc (i := 5) (n := 1) (by decide +kernel) rfl (by decide) rfl
theorem i58_60 : m_G 58 60 L st μ = m_G 58 8 L st μ := g_goto (off := -52) (by decide +kernel) (by decide)
theorem i58_63 : m_G 58 63 [.ref a0, v1, v2, v3, v4, v5, v6] st μ = m_G 58 64 [.ref a0, v1, v2, v3, v4, v5, v6] (.ref a0 :: st) μ := g_aload_n (i := 0) (by decide +kernel) rfl
theorem i58_64 : m_G 58 64 L (.ref a0 :: st) μ = b_v (m_gf μ a0 8 1) 58 67 L st μ := g_getf (i := 74) (by decide +kernel) (by decide +kernel)
theorem i58_67 : m_G 58 67 [v0, v1, v2, .int x0, v4, v5, v6] st μ = m_G 58 68 [v0, v1, v2, .int x0, v4, v5, v6] (.int x0 :: st) μ := g_iload_n (i := 3) (by decide +kernel) rfl
theorem i58_68 : m_G 58 68 L (.int x1 :: .int x0 :: st) μ = m_G 58 69 L (.int (x0 + x1) :: st) μ := g_iadd (by decide +kernel)
theorem i58_69 : m_G 58 69 L st μ = m_G 58 71 L (.int 90 :: st) μ := g_bipush (n := 90) (by decide +kernel) (by decide)
theorem i58_71 : m_G 58 71 L (.int x1 :: .int x0 :: st) μ = if x1 < x0 then m_G 58 74 L st μ else m_G 58 77 L st μ := g_cmple (off := 6) (by decide +kernel) (by decide)
theorem i58_74 : m_G 58 74 L st μ = m_G 58 76 L (.int (-104) :: st) μ := g_bipush (n := -104) (by decide +kernel) (by decide)
theorem i58_76 : m_G 58 76 L [.int x0] μ = some (some (.int x0), μ) := g_ireti (by decide +kernel) (by decide)
theorem i58_77 : m_G 58 77 L st μ = m_G 58 78 L (.int 0 :: st) μ := g_iconst (n := 0) (by decide +kernel) (by decide)
theorem i58_78 : m_G 58 78 [v0, v1, v2, v3, v4, v5, v6] (.int x0 :: st) μ = m_G 58 80 [v0, v1, v2, v3, v4, .int x0, v6] st μ := g_istore (i := 5) (by decide +kernel) (Nat.le_of_ble_eq_true rfl) rfl
theorem i58_80 : m_G 58 80 [v0, v1, v2, v3, v4, .int x0, v6] st μ = m_G 58 82 [v0, v1, v2, v3, v4, .int x0, v6] (.int x0 :: st) μ := g_iload (i := 5) (by decide +kernel) rfl
theorem i58_82 : m_G 58 82 [v0, v1, v2, .int x0, v4, v5, v6] st μ = m_G 58 83 [v0, v1, v2, .int x0, v4, v5, v6] (.int x0 :: st) μ := g_iload_n (i := 3) (by decide +kernel) rfl
theorem i58_83 : m_G 58 83 L (.int x1 :: .int x0 :: st) μ = if x0 < x1 then m_G 58 86 L st μ else m_G 58 118 L st μ := g_cmpge (off := 35) (by decide +kernel) (by decide)
theorem i58_86 : m_G 58 86 [.ref a0, v1, v2, v3, v4, v5, v6] st μ = m_G 58 87 [.ref a0, v1, v2, v3, v4, v5, v6] (.ref a0 :: st) μ := g_aload_n (i := 0) (by decide +kernel) rfl
theorem i58_87 : m_G 58 87 L (.ref a0 :: st) μ = b_v (m_gf μ a0 8 0) 58 90 L st μ := g_getf (i := 9) (by decide +kernel) (by decide +kernel)
theorem i58_90 : m_G 58 90 [.ref a0, v1, v2, v3, v4, v5, v6] st μ = m_G 58 91 [.ref a0, v1, v2, v3, v4, v5, v6] (.ref a0 :: st) μ := g_aload_n (i := 0) (by decide +kernel) rfl
theorem i58_91 : m_G 58 91 L (.ref a0 :: st) μ = b_v (m_gf μ a0 8 1) 58 94 L st μ := g_getf (i := 74) (by decide +kernel) (by decide +kernel)
theorem i58_94 : m_G 58 94 [v0, .long l0, v2, v3, v4, v5, v6] st μ = m_G 58 95 [v0, .long l0, v2, v3, v4, v5, v6] (.long l0 :: st) μ := g_lload_n (i := 1) (by decide +kernel) rfl
theorem i58_95 : m_G 58 95 [v0, v1, v2, v3, v4, .int x0, v6] st μ = m_G 58 97 [v0, v1, v2, v3, v4, .int x0, v6] (.int x0 :: st) μ := g_iload (i := 5) (by decide +kernel) rfl
theorem i58_97 : m_G 58 97 L (.int x1 :: .long l0 :: [w0, w1]) μ = b_c (m_D 59 [.long l0, .int x1] μ) 58 100 L [w0, w1] := g_stat (i := 70) (n := 2) (by decide +kernel) (by decide +kernel) (by decide) (x_call_ok (ws := [2, 1]) (Nat.le_of_ble_eq_true rfl) rfl (by decide +kernel) rfl (by decide +kernel) rfl rfl)
theorem i58_100 : m_G 58 100 L (.int x0 :: st) μ = m_G 58 101 L (.int x0.toInt8.toInt32 :: st) μ := g_i2b (by decide +kernel)
theorem i58_101 : m_G 58 101 L (.int x1 :: .int x0 :: .ref a0 :: st) μ = b_m (m_pb μ a0 x0 x1) 58 102 L st := g_bast (by decide +kernel)
theorem i58_102 : m_G 58 102 [.ref a0, v1, v2, v3, v4, v5, v6] st μ = m_G 58 103 [.ref a0, v1, v2, v3, v4, v5, v6] (.ref a0 :: st) μ := g_aload_n (i := 0) (by decide +kernel) rfl
theorem i58_103 : m_G 58 103 L (.ref a0 :: st) μ = m_G 58 104 L (.ref a0 :: .ref a0 :: st) μ := g_dupr (by decide +kernel)
theorem i58_103I : m_G 58 103 L (.int x0 :: st) μ = m_G 58 104 L (.int x0 :: .int x0 :: st) μ := g_dupi (by decide +kernel)
theorem i58_104 : m_G 58 104 L (.ref a0 :: st) μ = b_v (m_gf μ a0 8 1) 58 107 L st μ := g_getf (i := 74) (by decide +kernel) (by decide +kernel)
theorem i58_107 : m_G 58 107 L st μ = m_G 58 108 L (.int 1 :: st) μ := g_iconst (n := 1) (by decide +kernel) (by decide)
theorem i58_108 : m_G 58 108 L (.int x1 :: .int x0 :: st) μ = m_G 58 109 L (.int (x0 + x1) :: st) μ := g_iadd (by decide +kernel)
theorem i58_109 : m_G 58 109 L (w0 :: .ref a0 :: st) μ = b_m (m_pf μ a0 8 1 .int w0) 58 112 L st := g_putf (i := 74) (by decide +kernel) (by decide +kernel) (Or.inl (by decide)) (by decide)
theorem i58_112 : m_G 58 112 [v0, v1, v2, v3, v4, .int x0, v6] st μ = m_G 58 115 [v0, v1, v2, v3, v4, .int (x0 + 1), v6] st μ := g_iinc (i := 5) (n := 1) (by decide +kernel) rfl (by decide) rfl
theorem i58_115 : m_G 58 115 L st μ = m_G 58 80 L st μ := g_goto (off := -35) (by decide +kernel) (by decide)
theorem i58_118 : m_G 58 118 [.ref a0, v1, v2, v3, v4, v5, v6] st μ = m_G 58 119 [.ref a0, v1, v2, v3, v4, v5, v6] (.ref a0 :: st) μ := g_aload_n (i := 0) (by decide +kernel) rfl
theorem i58_119 : m_G 58 119 L (.ref a0 :: st) μ = b_v (m_gf μ a0 8 1) 58 122 L st μ := g_getf (i := 74) (by decide +kernel) (by decide +kernel)
theorem i58_122 : m_G 58 122 L [.int x0] μ = some (some (.int x0), μ) := g_ireti (by decide +kernel) (by decide)
theorem D58 : m_D 58 [.ref a0, .long l0] μ = m_G 58 0 [.ref a0, .long l0, m_d, m_d, m_d, m_d, m_d] [] μ := d_def (by decide) rfl
theorem i59_0 : m_G 59 0 [.long l0, v1, v2] st μ = m_G 59 1 [.long l0, v1, v2] (.long l0 :: st) μ := g_lload_n (i := 0) (by decide +kernel) rfl
theorem i59_1 : m_G 59 1 L st μ = m_G 59 3 L (.int 8 :: st) μ := g_bipush (n := 8) (by decide +kernel) (by decide)
theorem i59_3 : m_G 59 3 [v0, v1, .int x0] st μ = m_G 59 4 [v0, v1, .int x0] (.int x0 :: st) μ := g_iload_n (i := 2) (by decide +kernel) rfl
theorem i59_4 : m_G 59 4 L (.int x1 :: .int x0 :: st) μ = m_G 59 5 L (.int (x0 * x1) :: st) μ := g_imul (by decide +kernel)
theorem i59_5 : m_G 59 5 L (.int x0 :: .long l0 :: st) μ = m_G 59 6 L (.long (l0.toUInt64 >>> (x0.toInt64.toUInt64 &&& Int64.toUInt64 63)).toInt64 :: st) μ := g_lushr (by decide +kernel)
theorem i59_6 : m_G 59 6 L st μ = m_G 59 9 L (.long (255) :: st) μ := g_ldc2_w (i := 78) (by decide +kernel) (by decide +kernel)
theorem i59_9 : m_G 59 9 L (.long l1 :: .long l0 :: st) μ = m_G 59 10 L (.long (l0 &&& l1) :: st) μ := g_land (by decide +kernel)
theorem i59_10 : m_G 59 10 L (.long l0 :: st) μ = m_G 59 11 L (.int l0.toInt32 :: st) μ := g_l2i (by decide +kernel)
theorem i59_11 : m_G 59 11 L [.int x0] μ = some (some (.int x0), μ) := g_ireti (by decide +kernel) (by decide)
theorem D59 : m_D 59 [.long l0, .int x1] μ = m_G 59 0 [.long l0, m_d, .int x1] [] μ := d_def (by decide) rfl
theorem i60_0 : m_G 60 0 [.ref a0, v1] st μ = m_G 60 1 [.ref a0, v1] (.ref a0 :: st) μ := g_aload_n (i := 0) (by decide +kernel) rfl
theorem i60_1 : m_G 60 1 L (.ref a0 :: st) μ = b_v (m_gf μ a0 8 1) 60 4 L st μ := g_getf (i := 74) (by decide +kernel) (by decide +kernel)
theorem i60_4 : m_G 60 4 [v0, v1] (.int x0 :: st) μ = m_G 60 5 [v0, .int x0] st μ := g_istore_n (i := 1) (by decide +kernel) (Nat.le_of_ble_eq_true rfl) rfl
theorem i60_5 : m_G 60 5 [.ref a0, v1] st μ = m_G 60 6 [.ref a0, v1] (.ref a0 :: st) μ := g_aload_n (i := 0) (by decide +kernel) rfl
theorem i60_6 : m_G 60 6 L st μ = m_G 60 7 L (.int 0 :: st) μ := g_iconst (n := 0) (by decide +kernel) (by decide)
theorem i60_7 : m_G 60 7 L (w0 :: .ref a0 :: st) μ = b_m (m_pf μ a0 8 1 .int w0) 60 10 L st := g_putf (i := 74) (by decide +kernel) (by decide +kernel) (Or.inl (by decide)) (by decide)
theorem i60_10 : m_G 60 10 [v0, .int x0] st μ = m_G 60 11 [v0, .int x0] (.int x0 :: st) μ := g_iload_n (i := 1) (by decide +kernel) rfl
theorem i60_11 : m_G 60 11 L [.int x0] μ = some (some (.int x0), μ) := g_ireti (by decide +kernel) (by decide)
theorem D60 : m_D 60 [.ref a0] μ = m_G 60 0 [.ref a0, m_d] [] μ := d_def (by decide) rfl
theorem i61_0 : m_G 61 0 [v0, .int x0] st μ = m_G 61 1 [v0, .int x0] (.int x0 :: st) μ := g_iload_n (i := 1) (by decide +kernel) rfl
theorem i61_1 : m_G 61 1 L (.int x0 :: st) μ = if x0 = 0 then m_G 61 4 L st μ else m_G 61 13 L st μ := g_ifne (off := 12) (by decide +kernel) (by decide)
theorem i61_4 : m_G 61 4 [.ref a0, v1] st μ = m_G 61 5 [.ref a0, v1] (.ref a0 :: st) μ := g_aload_n (i := 0) (by decide +kernel) rfl
theorem i61_5 : m_G 61 5 [.ref a0, v1] st μ = m_G 61 6 [.ref a0, v1] (.ref a0 :: st) μ := g_aload_n (i := 0) (by decide +kernel) rfl
theorem i61_6 : m_G 61 6 L (.ref a0 :: st) μ = b_v (m_gf μ a0 8 8) 61 9 L st μ := g_getf (i := 34) (by decide +kernel) (by decide +kernel)
theorem i61_9 (ho : m_oc μ a0 = some 8) : m_G 61 9 L (.ref a1 :: .ref a0 :: []) μ = b_c (m_D 62 [.ref a0, .ref a1] μ) 61 12 L [] := g_virt (i := 80) (n := 1) (a := a0) (c := 8) (l := [(8, 62)]) (by decide +kernel) (by decide +kernel) rfl rfl (x_call_ok (ws := [1, 1]) (Nat.le_of_ble_eq_true rfl) rfl (by decide +kernel) rfl (by decide +kernel) rfl rfl) ho
theorem i61_12 : m_G 61 12 L [.int x0] μ = some (some (.int x0), μ) := g_ireti (by decide +kernel) (by decide)
theorem i61_13 : m_G 61 13 [v0, .int x0] st μ = m_G 61 14 [v0, .int x0] (.int x0 :: st) μ := g_iload_n (i := 1) (by decide +kernel) rfl
theorem i61_14 : m_G 61 14 L st μ = m_G 61 15 L (.int 1 :: st) μ := g_iconst (n := 1) (by decide +kernel) (by decide)
theorem i61_15 : m_G 61 15 L (.int x1 :: .int x0 :: st) μ = if x0 = x1 then m_G 61 18 L st μ else m_G 61 27 L st μ := g_cmpne (off := 12) (by decide +kernel) (by decide)
theorem i61_18 : m_G 61 18 [.ref a0, v1] st μ = m_G 61 19 [.ref a0, v1] (.ref a0 :: st) μ := g_aload_n (i := 0) (by decide +kernel) rfl
theorem i61_19 : m_G 61 19 [.ref a0, v1] st μ = m_G 61 20 [.ref a0, v1] (.ref a0 :: st) μ := g_aload_n (i := 0) (by decide +kernel) rfl
theorem i61_20 : m_G 61 20 L (.ref a0 :: st) μ = b_v (m_gf μ a0 8 9) 61 23 L st μ := g_getf (i := 41) (by decide +kernel) (by decide +kernel)
theorem i61_23 (ho : m_oc μ a0 = some 8) : m_G 61 23 L (.ref a1 :: .ref a0 :: []) μ = b_c (m_D 62 [.ref a0, .ref a1] μ) 61 26 L [] := g_virt (i := 80) (n := 1) (a := a0) (c := 8) (l := [(8, 62)]) (by decide +kernel) (by decide +kernel) rfl rfl (x_call_ok (ws := [1, 1]) (Nat.le_of_ble_eq_true rfl) rfl (by decide +kernel) rfl (by decide +kernel) rfl rfl) ho
theorem i61_26 : m_G 61 26 L [.int x0] μ = some (some (.int x0), μ) := g_ireti (by decide +kernel) (by decide)
theorem i61_27 : m_G 61 27 L st μ = m_G 61 29 L (.int (-102) :: st) μ := g_bipush (n := -102) (by decide +kernel) (by decide)
theorem i61_29 : m_G 61 29 L [.int x0] μ = some (some (.int x0), μ) := g_ireti (by decide +kernel) (by decide)
theorem D61 : m_D 61 [.ref a0, .int x0] μ = m_G 61 0 [.ref a0, .int x0] [] μ := d_def (by decide) rfl
theorem i62_0 : m_G 62 0 [v0, .ref a0, v2] st μ = m_G 62 1 [v0, .ref a0, v2] (.ref a0 :: st) μ := g_aload_n (i := 1) (by decide +kernel) rfl
theorem i62_1_P (ho : m_oc μ a0 = some 4) : m_G 62 1 L (.ref a0 :: []) μ = b_c (m_D 31 [.ref a0] μ) 62 4 L [] := g_virt (i := 84) (n := 0) (a := a0) (c := 4) (l := [(4, 31), (7, 52)]) (by decide +kernel) (by decide +kernel) rfl rfl (x_call_ok (ws := [1]) (Nat.le_of_ble_eq_true rfl) rfl (by decide +kernel) rfl (by decide +kernel) rfl rfl) ho
theorem i62_1_R (ho : m_oc μ a0 = some 7) : m_G 62 1 L (.ref a0 :: []) μ = b_c (m_D 52 [.ref a0] μ) 62 4 L [] := g_virt (i := 84) (n := 0) (a := a0) (c := 7) (l := [(4, 31), (7, 52)]) (by decide +kernel) (by decide +kernel) rfl rfl (x_call_ok (ws := [1]) (Nat.le_of_ble_eq_true rfl) rfl (by decide +kernel) rfl (by decide +kernel) rfl rfl) ho
theorem i62_4 : m_G 62 4 L st μ = m_G 62 5 L (.int 0 :: st) μ := g_iconst (n := 0) (by decide +kernel) (by decide)
theorem i62_5 : m_G 62 5 [v0, v1, v2] (.int x0 :: st) μ = m_G 62 6 [v0, v1, .int x0] st μ := g_istore_n (i := 2) (by decide +kernel) (Nat.le_of_ble_eq_true rfl) rfl
theorem i62_6 : m_G 62 6 [v0, v1, .int x0] st μ = m_G 62 7 [v0, v1, .int x0] (.int x0 :: st) μ := g_iload_n (i := 2) (by decide +kernel) rfl
theorem i62_7 : m_G 62 7 [.ref a0, v1, v2] st μ = m_G 62 8 [.ref a0, v1, v2] (.ref a0 :: st) μ := g_aload_n (i := 0) (by decide +kernel) rfl
theorem i62_8 : m_G 62 8 L (.ref a0 :: st) μ = b_v (m_gf μ a0 8 1) 62 11 L st μ := g_getf (i := 74) (by decide +kernel) (by decide +kernel)
theorem i62_11 : m_G 62 11 L (.int x1 :: .int x0 :: st) μ = if x0 < x1 then m_G 62 14 L st μ else m_G 62 35 L st μ := g_cmpge (off := 24) (by decide +kernel) (by decide)
theorem i62_14 : m_G 62 14 [v0, .ref a0, v2] st μ = m_G 62 15 [v0, .ref a0, v2] (.ref a0 :: st) μ := g_aload_n (i := 1) (by decide +kernel) rfl
theorem i62_15 : m_G 62 15 [.ref a0, v1, v2] st μ = m_G 62 16 [.ref a0, v1, v2] (.ref a0 :: st) μ := g_aload_n (i := 0) (by decide +kernel) rfl
theorem i62_16 : m_G 62 16 L (.ref a0 :: st) μ = b_v (m_gf μ a0 8 0) 62 19 L st μ := g_getf (i := 9) (by decide +kernel) (by decide +kernel)
theorem i62_19 : m_G 62 19 [v0, v1, .int x0] st μ = m_G 62 20 [v0, v1, .int x0] (.int x0 :: st) μ := g_iload_n (i := 2) (by decide +kernel) rfl
theorem i62_20 : m_G 62 20 L (.int x0 :: .ref a0 :: st) μ = b_i (m_gb μ a0 x0) 62 21 L st μ := g_bald (by decide +kernel)
theorem i62_21_P (ho : m_oc μ a0 = some 4) : m_G 62 21 L (.int x0 :: .ref a0 :: []) μ = b_c (m_D 33 [.ref a0, .int x0] μ) 62 24 L [] := g_virt (i := 89) (n := 1) (a := a0) (c := 4) (l := [(4, 33), (7, 54)]) (by decide +kernel) (by decide +kernel) rfl rfl (x_call_ok (ws := [1, 1]) (Nat.le_of_ble_eq_true rfl) rfl (by decide +kernel) rfl (by decide +kernel) rfl rfl) ho
theorem i62_21_R (ho : m_oc μ a0 = some 7) : m_G 62 21 L (.int x0 :: .ref a0 :: []) μ = b_c (m_D 54 [.ref a0, .int x0] μ) 62 24 L [] := g_virt (i := 89) (n := 1) (a := a0) (c := 7) (l := [(4, 33), (7, 54)]) (by decide +kernel) (by decide +kernel) rfl rfl (x_call_ok (ws := [1, 1]) (Nat.le_of_ble_eq_true rfl) rfl (by decide +kernel) rfl (by decide +kernel) rfl rfl) ho
theorem i62_24 : m_G 62 24 L (.int x0 :: st) μ = if x0 = 0 then m_G 62 27 L st μ else m_G 62 29 L st μ := g_ifne (off := 5) (by decide +kernel) (by decide)
theorem i62_27 : m_G 62 27 [v0, v1, .int x0] st μ = m_G 62 28 [v0, v1, .int x0] (.int x0 :: st) μ := g_iload_n (i := 2) (by decide +kernel) rfl
theorem i62_28 : m_G 62 28 L [.int x0] μ = some (some (.int x0), μ) := g_ireti (by decide +kernel) (by decide)
theorem i62_29 : m_G 62 29 [v0, v1, .int x0] st μ = m_G 62 32 [v0, v1, .int (x0 + 1)] st μ := g_iinc (i := 2) (n := 1) (by decide +kernel) rfl (by decide) rfl
theorem i62_32 : m_G 62 32 L st μ = m_G 62 6 L st μ := g_goto (off := -26) (by decide +kernel) (by decide)
theorem i62_35 : m_G 62 35 [.ref a0, v1, v2] st μ = m_G 62 36 [.ref a0, v1, v2] (.ref a0 :: st) μ := g_aload_n (i := 0) (by decide +kernel) rfl
theorem i62_36 : m_G 62 36 L (.ref a0 :: st) μ = b_v (m_gf μ a0 8 1) 62 39 L st μ := g_getf (i := 74) (by decide +kernel) (by decide +kernel)
theorem i62_39 : m_G 62 39 L [.int x0] μ = some (some (.int x0), μ) := g_ireti (by decide +kernel) (by decide)
theorem D62 : m_D 62 [.ref a0, .ref a1] μ = m_G 62 0 [.ref a0, .ref a1, m_d] [] μ := d_def (by decide) rfl
theorem i63_0 : m_G 63 0 [.ref a0, v1] st μ = m_G 63 1 [.ref a0, v1] (.ref a0 :: st) μ := g_aload_n (i := 0) (by decide +kernel) rfl
theorem i63_1 : m_G 63 1 [v0, .ref a0] st μ = m_G 63 2 [v0, .ref a0] (.ref a0 :: st) μ := g_aload_n (i := 1) (by decide +kernel) rfl
theorem i63_2 (ho : m_oc μ a0 = some 8) : m_G 63 2 L (.ref a1 :: .ref a0 :: []) μ = b_c (m_D 62 [.ref a0, .ref a1] μ) 63 5 L [] := g_virt (i := 80) (n := 1) (a := a0) (c := 8) (l := [(8, 62)]) (by decide +kernel) (by decide +kernel) rfl rfl (x_call_ok (ws := [1, 1]) (Nat.le_of_ble_eq_true rfl) rfl (by decide +kernel) rfl (by decide +kernel) rfl rfl) ho
theorem i63_5 : m_G 63 5 [.ref a0, v1] st μ = m_G 63 6 [.ref a0, v1] (.ref a0 :: st) μ := g_aload_n (i := 0) (by decide +kernel) rfl
theorem i63_6 : m_G 63 6 L (.ref a0 :: st) μ = b_v (m_gf μ a0 8 1) 63 9 L st μ := g_getf (i := 74) (by decide +kernel) (by decide +kernel)
theorem i63_9 : m_G 63 9 L (.int x1 :: .int x0 :: st) μ = if x0 = x1 then m_G 63 12 L st μ else m_G 63 23 L st μ := g_cmpne (off := 14) (by decide +kernel) (by decide)
theorem i63_12 : m_G 63 12 [v0, .ref a0] st μ = m_G 63 13 [v0, .ref a0] (.ref a0 :: st) μ := g_aload_n (i := 1) (by decide +kernel) rfl
theorem i63_13_P (ho : m_oc μ a0 = some 4) : m_G 63 13 L (.ref a0 :: []) μ = b_c (m_D 32 [.ref a0] μ) 63 16 L [] := g_virt (i := 93) (n := 0) (a := a0) (c := 4) (l := [(4, 32), (7, 53)]) (by decide +kernel) (by decide +kernel) rfl rfl (x_call_ok (ws := [1]) (Nat.le_of_ble_eq_true rfl) rfl (by decide +kernel) rfl (by decide +kernel) rfl rfl) ho
theorem i63_13_R (ho : m_oc μ a0 = some 7) : m_G 63 13 L (.ref a0 :: []) μ = b_c (m_D 53 [.ref a0] μ) 63 16 L [] := g_virt (i := 93) (n := 0) (a := a0) (c := 7) (l := [(4, 32), (7, 53)]) (by decide +kernel) (by decide +kernel) rfl rfl (x_call_ok (ws := [1]) (Nat.le_of_ble_eq_true rfl) rfl (by decide +kernel) rfl (by decide +kernel) rfl rfl) ho
theorem i63_16 : m_G 63 16 L (.int x0 :: st) μ = if x0 = 0 then m_G 63 23 L st μ else m_G 63 19 L st μ := g_ifeq (off := 7) (by decide +kernel) (by decide)
theorem i63_19 : m_G 63 19 L st μ = m_G 63 20 L (.int 1 :: st) μ := g_iconst (n := 1) (by decide +kernel) (by decide)
theorem i63_20 : m_G 63 20 L st μ = m_G 63 24 L st μ := g_goto (off := 4) (by decide +kernel) (by decide)
theorem i63_23 : m_G 63 23 L st μ = m_G 63 24 L (.int 0 :: st) μ := g_iconst (n := 0) (by decide +kernel) (by decide)
theorem i63_24 (h : x0 &&& 1 = x0) : m_G 63 24 L [.int x0] μ = some (some (.int x0), μ) := g_iretz (by decide +kernel) (by decide) h
theorem D63 : m_D 63 [.ref a0, .ref a1] μ = m_G 63 0 [.ref a0, .ref a1] [] μ := d_def (by decide) rfl
theorem i64_0 : m_G 64 0 [.ref a0] st μ = m_G 64 1 [.ref a0] (.ref a0 :: st) μ := g_aload_n (i := 0) (by decide +kernel) rfl
theorem i64_1 : m_G 64 1 [.ref a0] st μ = m_G 64 2 [.ref a0] (.ref a0 :: st) μ := g_aload_n (i := 0) (by decide +kernel) rfl
theorem i64_2 : m_G 64 2 L (.ref a0 :: st) μ = b_v (m_gf μ a0 8 8) 64 5 L st μ := g_getf (i := 34) (by decide +kernel) (by decide +kernel)
theorem i64_5 (ho : m_oc μ a0 = some 8) : m_G 64 5 L (.ref a1 :: .ref a0 :: []) μ = b_c (m_D 63 [.ref a0, .ref a1] μ) 64 8 L [] := g_virt (i := 97) (n := 1) (a := a0) (c := 8) (l := [(8, 63)]) (by decide +kernel) (by decide +kernel) rfl rfl (x_call_ok (ws := [1, 1]) (Nat.le_of_ble_eq_true rfl) rfl (by decide +kernel) rfl (by decide +kernel) rfl rfl) ho
theorem i64_8 : m_G 64 8 L (.int x0 :: st) μ = if x0 = 0 then m_G 64 11 L st μ else m_G 64 14 L st μ := g_ifne (off := 6) (by decide +kernel) (by decide)
theorem i64_11 : m_G 64 11 L st μ = m_G 64 13 L (.int (-103) :: st) μ := g_bipush (n := -103) (by decide +kernel) (by decide)
theorem i64_13 : m_G 64 13 L [.int x0] μ = some (some (.int x0), μ) := g_ireti (by decide +kernel) (by decide)
theorem i64_14 : m_G 64 14 [.ref a0] st μ = m_G 64 15 [.ref a0] (.ref a0 :: st) μ := g_aload_n (i := 0) (by decide +kernel) rfl
theorem i64_15 : m_G 64 15 L (.ref a0 :: st) μ = b_v (m_gf μ a0 8 3) 64 18 L st μ := g_getf (i := 101) (by decide +kernel) (by decide +kernel)
theorem i64_18 : m_G 64 18 L st μ = m_G 64 20 L (.int 8 :: st) μ := g_bipush (n := 8) (by decide +kernel) (by decide)
theorem i64_20 : m_G 64 20 L (.int x1 :: .int x0 :: st) μ = if x0 < x1 then m_G 64 26 L st μ else m_G 64 23 L st μ := g_cmplt (off := 6) (by decide +kernel) (by decide)
theorem i64_23 : m_G 64 23 L st μ = m_G 64 25 L (.int (-104) :: st) μ := g_bipush (n := -104) (by decide +kernel) (by decide)
theorem i64_25 : m_G 64 25 L [.int x0] μ = some (some (.int x0), μ) := g_ireti (by decide +kernel) (by decide)
theorem i64_26 : m_G 64 26 [.ref a0] st μ = m_G 64 27 [.ref a0] (.ref a0 :: st) μ := g_aload_n (i := 0) (by decide +kernel) rfl
theorem i64_27 : m_G 64 27 L (.ref a0 :: st) μ = b_v (m_gf μ a0 8 2) 64 30 L st μ := g_getf (i := 15) (by decide +kernel) (by decide +kernel)
theorem i64_30 : m_G 64 30 [.ref a0] st μ = m_G 64 31 [.ref a0] (.ref a0 :: st) μ := g_aload_n (i := 0) (by decide +kernel) rfl
theorem i64_31 : m_G 64 31 L (.ref a0 :: st) μ = b_v (m_gf μ a0 8 3) 64 34 L st μ := g_getf (i := 101) (by decide +kernel) (by decide +kernel)
theorem i64_34 : m_G 64 34 L st μ = m_G 64 37 L (.ref (mN μ) :: st) (m_new μ 16 (m_ob 3 [.int 0, .null, .null, .null, .null, .null, .null, .null, .null, .int 0, .int 0, .int 0, .int 0, .int 0, .null, .int 0])) := g_new (i := 13) (by decide +kernel) (by decide +kernel) rfl (by decide +kernel)
theorem i64_37 : m_G 64 37 L (.ref a0 :: st) μ = m_G 64 38 L (.ref a0 :: .ref a0 :: st) μ := g_dupr (by decide +kernel)
theorem i64_37I : m_G 64 37 L (.int x0 :: st) μ = m_G 64 38 L (.int x0 :: .int x0 :: st) μ := g_dupi (by decide +kernel)
theorem i64_38 : m_G 64 38 [.ref a0] st μ = m_G 64 39 [.ref a0] (.ref a0 :: st) μ := g_aload_n (i := 0) (by decide +kernel) rfl
theorem i64_39 : m_G 64 39 L (.ref a0 :: st) μ = b_v (m_gf μ a0 8 8) 64 42 L st μ := g_getf (i := 34) (by decide +kernel) (by decide +kernel)
theorem i64_42 : m_G 64 42 L (.ref a1 :: .ref a0 :: [w0, w1, w2]) μ = b_c (m_D 15 [.ref a0, .ref a1] μ) 64 45 L [w0, w1, w2] := g_spec (i := 104) (n := 1) (a := a0) (by decide +kernel) (by decide +kernel) rfl (x_call_ok (ws := [1, 1]) (Nat.le_of_ble_eq_true rfl) rfl (by decide +kernel) rfl (by decide +kernel) rfl rfl)
theorem i64_45 : m_G 64 45 L (.ref a1 :: .int x0 :: .ref a0 :: st) μ = b_m (m_pr μ a0 x0 a1) 64 46 L st := g_aast (by decide +kernel)
theorem i64_46 : m_G 64 46 [.ref a0] st μ = m_G 64 47 [.ref a0] (.ref a0 :: st) μ := g_aload_n (i := 0) (by decide +kernel) rfl
theorem i64_47 : m_G 64 47 L (.ref a0 :: st) μ = m_G 64 48 L (.ref a0 :: .ref a0 :: st) μ := g_dupr (by decide +kernel)
theorem i64_47I : m_G 64 47 L (.int x0 :: st) μ = m_G 64 48 L (.int x0 :: .int x0 :: st) μ := g_dupi (by decide +kernel)
theorem i64_48 : m_G 64 48 L (.ref a0 :: st) μ = b_v (m_gf μ a0 8 3) 64 51 L st μ := g_getf (i := 101) (by decide +kernel) (by decide +kernel)
theorem i64_51 : m_G 64 51 L st μ = m_G 64 52 L (.int 1 :: st) μ := g_iconst (n := 1) (by decide +kernel) (by decide)
theorem i64_52 : m_G 64 52 L (.int x1 :: .int x0 :: st) μ = m_G 64 53 L (.int (x0 + x1) :: st) μ := g_iadd (by decide +kernel)
theorem i64_53 : m_G 64 53 L (w0 :: .ref a0 :: st) μ = b_m (m_pf μ a0 8 3 .int w0) 64 56 L st := g_putf (i := 101) (by decide +kernel) (by decide +kernel) (Or.inl (by decide)) (by decide)
theorem i64_56 : m_G 64 56 [.ref a0] st μ = m_G 64 57 [.ref a0] (.ref a0 :: st) μ := g_aload_n (i := 0) (by decide +kernel) rfl
theorem i64_57 : m_G 64 57 L st μ = m_G 64 58 L (.int 0 :: st) μ := g_iconst (n := 0) (by decide +kernel) (by decide)
theorem i64_58 : m_G 64 58 L (w0 :: .ref a0 :: st) μ = b_m (m_pf μ a0 8 1 .int w0) 64 61 L st := g_putf (i := 74) (by decide +kernel) (by decide +kernel) (Or.inl (by decide)) (by decide)
theorem i64_61 : m_G 64 61 [.ref a0] st μ = m_G 64 62 [.ref a0] (.ref a0 :: st) μ := g_aload_n (i := 0) (by decide +kernel) rfl
theorem i64_62 : m_G 64 62 L st μ = m_G 64 63 L (.int 0 :: st) μ := g_iconst (n := 0) (by decide +kernel) (by decide)
theorem i64_63 : m_G 64 63 L (w0 :: .ref a0 :: st) μ = b_m (m_pf μ a0 8 11 .boolean w0) 64 66 L st := g_putf (i := 107) (by decide +kernel) (by decide +kernel) (Or.inl (by decide)) (by decide)
theorem i64_66 : m_G 64 66 [.ref a0] st μ = m_G 64 67 [.ref a0] (.ref a0 :: st) μ := g_aload_n (i := 0) (by decide +kernel) rfl
theorem i64_67 : m_G 64 67 L (.ref a0 :: st) μ = b_v (m_gf μ a0 8 3) 64 70 L st μ := g_getf (i := 101) (by decide +kernel) (by decide +kernel)
theorem i64_70 : m_G 64 70 L st μ = m_G 64 71 L (.int 1 :: st) μ := g_iconst (n := 1) (by decide +kernel) (by decide)
theorem i64_71 : m_G 64 71 L (.int x1 :: .int x0 :: st) μ = m_G 64 72 L (.int (x0 - x1) :: st) μ := g_isub (by decide +kernel)
theorem i64_72 : m_G 64 72 L [.int x0] μ = some (some (.int x0), μ) := g_ireti (by decide +kernel) (by decide)
theorem D64 : m_D 64 [.ref a0] μ = m_G 64 0 [.ref a0] [] μ := d_def (by decide) rfl
theorem i65_0 : m_G 65 0 [v0, .int x0] st μ = m_G 65 1 [v0, .int x0] (.int x0 :: st) μ := g_iload_n (i := 1) (by decide +kernel) rfl
theorem i65_1 : m_G 65 1 L (.int x0 :: []) μ = b_c (m_D 66 [.int x0] μ) 65 4 L [] := g_stat (i := 111) (n := 1) (by decide +kernel) (by decide +kernel) (by decide) (x_call_ok (ws := [1]) (Nat.le_of_ble_eq_true rfl) rfl (by decide +kernel) rfl (by decide +kernel) rfl rfl)
theorem i65_4 : m_G 65 4 L (.int x0 :: st) μ = if x0 = 0 then m_G 65 7 L st μ else m_G 65 10 L st μ := g_ifne (off := 6) (by decide +kernel) (by decide)
theorem i65_7 : m_G 65 7 L st μ = m_G 65 9 L (.int (-102) :: st) μ := g_bipush (n := -102) (by decide +kernel) (by decide)
theorem i65_9 : m_G 65 9 L [.int x0] μ = some (some (.int x0), μ) := g_ireti (by decide +kernel) (by decide)
theorem i65_10 : m_G 65 10 [.ref a0, v1] st μ = m_G 65 11 [.ref a0, v1] (.ref a0 :: st) μ := g_aload_n (i := 0) (by decide +kernel) rfl
theorem i65_11 : m_G 65 11 [.ref a0, v1] st μ = m_G 65 12 [.ref a0, v1] (.ref a0 :: st) μ := g_aload_n (i := 0) (by decide +kernel) rfl
theorem i65_12 : m_G 65 12 L (.ref a0 :: st) μ = b_v (m_gf μ a0 8 9) 65 15 L st μ := g_getf (i := 41) (by decide +kernel) (by decide +kernel)
theorem i65_15 (ho : m_oc μ a0 = some 8) : m_G 65 15 L (.ref a1 :: .ref a0 :: []) μ = b_c (m_D 63 [.ref a0, .ref a1] μ) 65 18 L [] := g_virt (i := 97) (n := 1) (a := a0) (c := 8) (l := [(8, 63)]) (by decide +kernel) (by decide +kernel) rfl rfl (x_call_ok (ws := [1, 1]) (Nat.le_of_ble_eq_true rfl) rfl (by decide +kernel) rfl (by decide +kernel) rfl rfl) ho
theorem i65_18 : m_G 65 18 L (.int x0 :: st) μ = if x0 = 0 then m_G 65 21 L st μ else m_G 65 24 L st μ := g_ifne (off := 6) (by decide +kernel) (by decide)
theorem i65_21 : m_G 65 21 L st μ = m_G 65 23 L (.int (-103) :: st) μ := g_bipush (n := -103) (by decide +kernel) (by decide)
theorem i65_23 : m_G 65 23 L [.int x0] μ = some (some (.int x0), μ) := g_ireti (by decide +kernel) (by decide)
theorem i65_24 : m_G 65 24 [.ref a0, v1] st μ = m_G 65 25 [.ref a0, v1] (.ref a0 :: st) μ := g_aload_n (i := 0) (by decide +kernel) rfl
theorem i65_25 : m_G 65 25 L (.ref a0 :: st) μ = b_v (m_gf μ a0 8 5) 65 28 L st μ := g_getf (i := 114) (by decide +kernel) (by decide +kernel)
theorem i65_28 : m_G 65 28 L st μ = m_G 65 30 L (.int 10 :: st) μ := g_bipush (n := 10) (by decide +kernel) (by decide)
theorem i65_30 : m_G 65 30 L (.int x1 :: .int x0 :: st) μ = if x0 < x1 then m_G 65 36 L st μ else m_G 65 33 L st μ := g_cmplt (off := 6) (by decide +kernel) (by decide)
theorem i65_33 : m_G 65 33 L st μ = m_G 65 35 L (.int (-104) :: st) μ := g_bipush (n := -104) (by decide +kernel) (by decide)
theorem i65_35 : m_G 65 35 L [.int x0] μ = some (some (.int x0), μ) := g_ireti (by decide +kernel) (by decide)
theorem i65_36 : m_G 65 36 [.ref a0, v1] st μ = m_G 65 37 [.ref a0, v1] (.ref a0 :: st) μ := g_aload_n (i := 0) (by decide +kernel) rfl
theorem i65_37 : m_G 65 37 L (.ref a0 :: st) μ = b_v (m_gf μ a0 8 4) 65 40 L st μ := g_getf (i := 21) (by decide +kernel) (by decide +kernel)
theorem i65_40 : m_G 65 40 [.ref a0, v1] st μ = m_G 65 41 [.ref a0, v1] (.ref a0 :: st) μ := g_aload_n (i := 0) (by decide +kernel) rfl
theorem i65_41 : m_G 65 41 L (.ref a0 :: st) μ = b_v (m_gf μ a0 8 5) 65 44 L st μ := g_getf (i := 114) (by decide +kernel) (by decide +kernel)
theorem i65_44 : m_G 65 44 L st μ = m_G 65 47 L (.ref (mN μ) :: st) (m_new μ 2 (m_ob 6 [.int 0, .null])) := g_new (i := 19) (by decide +kernel) (by decide +kernel) rfl (by decide +kernel)
theorem i65_47 : m_G 65 47 L (.ref a0 :: st) μ = m_G 65 48 L (.ref a0 :: .ref a0 :: st) μ := g_dupr (by decide +kernel)
theorem i65_47I : m_G 65 47 L (.int x0 :: st) μ = m_G 65 48 L (.int x0 :: .int x0 :: st) μ := g_dupi (by decide +kernel)
theorem i65_48 : m_G 65 48 [v0, .int x0] st μ = m_G 65 49 [v0, .int x0] (.int x0 :: st) μ := g_iload_n (i := 1) (by decide +kernel) rfl
theorem i65_49 : m_G 65 49 [.ref a0, v1] st μ = m_G 65 50 [.ref a0, v1] (.ref a0 :: st) μ := g_aload_n (i := 0) (by decide +kernel) rfl
theorem i65_50 : m_G 65 50 L (.ref a0 :: st) μ = b_v (m_gf μ a0 8 9) 65 53 L st μ := g_getf (i := 41) (by decide +kernel) (by decide +kernel)
theorem i65_53 : m_G 65 53 L (.ref a2 :: .int x0 :: .ref a0 :: [w0, w1, w2]) μ = b_c (m_D 47 [.ref a0, .int x0, .ref a2] μ) 65 56 L [w0, w1, w2] := g_spec (i := 117) (n := 2) (a := a0) (by decide +kernel) (by decide +kernel) rfl (x_call_ok (ws := [1, 1, 1]) (Nat.le_of_ble_eq_true rfl) rfl (by decide +kernel) rfl (by decide +kernel) rfl rfl)
theorem i65_56 : m_G 65 56 L (.ref a1 :: .int x0 :: .ref a0 :: st) μ = b_m (m_pr μ a0 x0 a1) 65 57 L st := g_aast (by decide +kernel)
theorem i65_57 : m_G 65 57 [.ref a0, v1] st μ = m_G 65 58 [.ref a0, v1] (.ref a0 :: st) μ := g_aload_n (i := 0) (by decide +kernel) rfl
theorem i65_58 : m_G 65 58 L (.ref a0 :: st) μ = m_G 65 59 L (.ref a0 :: .ref a0 :: st) μ := g_dupr (by decide +kernel)
theorem i65_58I : m_G 65 58 L (.int x0 :: st) μ = m_G 65 59 L (.int x0 :: .int x0 :: st) μ := g_dupi (by decide +kernel)
theorem i65_59 : m_G 65 59 L (.ref a0 :: st) μ = b_v (m_gf μ a0 8 5) 65 62 L st μ := g_getf (i := 114) (by decide +kernel) (by decide +kernel)
theorem i65_62 : m_G 65 62 L st μ = m_G 65 63 L (.int 1 :: st) μ := g_iconst (n := 1) (by decide +kernel) (by decide)
theorem i65_63 : m_G 65 63 L (.int x1 :: .int x0 :: st) μ = m_G 65 64 L (.int (x0 + x1) :: st) μ := g_iadd (by decide +kernel)
theorem i65_64 : m_G 65 64 L (w0 :: .ref a0 :: st) μ = b_m (m_pf μ a0 8 5 .int w0) 65 67 L st := g_putf (i := 114) (by decide +kernel) (by decide +kernel) (Or.inl (by decide)) (by decide)
theorem i65_67 : m_G 65 67 [.ref a0, v1] st μ = m_G 65 68 [.ref a0, v1] (.ref a0 :: st) μ := g_aload_n (i := 0) (by decide +kernel) rfl
theorem i65_68 : m_G 65 68 L st μ = m_G 65 69 L (.int 0 :: st) μ := g_iconst (n := 0) (by decide +kernel) (by decide)
theorem i65_69 : m_G 65 69 L (w0 :: .ref a0 :: st) μ = b_m (m_pf μ a0 8 1 .int w0) 65 72 L st := g_putf (i := 74) (by decide +kernel) (by decide +kernel) (Or.inl (by decide)) (by decide)
theorem i65_72 : m_G 65 72 [.ref a0, v1] st μ = m_G 65 73 [.ref a0, v1] (.ref a0 :: st) μ := g_aload_n (i := 0) (by decide +kernel) rfl
theorem i65_73 : m_G 65 73 L (.ref a0 :: st) μ = b_v (m_gf μ a0 8 5) 65 76 L st μ := g_getf (i := 114) (by decide +kernel) (by decide +kernel)
theorem i65_76 : m_G 65 76 L st μ = m_G 65 77 L (.int 1 :: st) μ := g_iconst (n := 1) (by decide +kernel) (by decide)
theorem i65_77 : m_G 65 77 L (.int x1 :: .int x0 :: st) μ = m_G 65 78 L (.int (x0 - x1) :: st) μ := g_isub (by decide +kernel)
theorem i65_78 : m_G 65 78 L [.int x0] μ = some (some (.int x0), μ) := g_ireti (by decide +kernel) (by decide)
theorem D65 : m_D 65 [.ref a0, .int x0] μ = m_G 65 0 [.ref a0, .int x0] [] μ := d_def (by decide) rfl
theorem i66_0 : m_G 66 0 [.int x0] st μ = m_G 66 1 [.int x0] (.int x0 :: st) μ := g_iload_n (i := 0) (by decide +kernel) rfl
theorem i66_1 : m_G 66 1 L (.int x0 :: st) μ = if x0 < 0 then m_G 66 13 L st μ else m_G 66 4 L st μ := g_iflt (off := 12) (by decide +kernel) (by decide)
theorem i66_4 : m_G 66 4 [.int x0] st μ = m_G 66 5 [.int x0] (.int x0 :: st) μ := g_iload_n (i := 0) (by decide +kernel) rfl
theorem i66_5 : m_G 66 5 L st μ = m_G 66 6 L (.int 5 :: st) μ := g_iconst (n := 5) (by decide +kernel) (by decide)
theorem i66_6 : m_G 66 6 L (.int x1 :: .int x0 :: st) μ = if x1 < x0 then m_G 66 13 L st μ else m_G 66 9 L st μ := g_cmpgt (off := 7) (by decide +kernel) (by decide)
theorem i66_9 : m_G 66 9 L st μ = m_G 66 10 L (.int 1 :: st) μ := g_iconst (n := 1) (by decide +kernel) (by decide)
theorem i66_10 : m_G 66 10 L st μ = m_G 66 14 L st μ := g_goto (off := 4) (by decide +kernel) (by decide)
theorem i66_13 : m_G 66 13 L st μ = m_G 66 14 L (.int 0 :: st) μ := g_iconst (n := 0) (by decide +kernel) (by decide)
theorem i66_14 (h : x0 &&& 1 = x0) : m_G 66 14 L [.int x0] μ = some (some (.int x0), μ) := g_iretz (by decide +kernel) (by decide) h
theorem D66 : m_D 66 [.int x0] μ = m_G 66 0 [.int x0] [] μ := d_def (by decide) rfl
theorem i67_0 : m_G 67 0 [v0, .int x0] st μ = m_G 67 1 [v0, .int x0] (.int x0 :: st) μ := g_iload_n (i := 1) (by decide +kernel) rfl
theorem i67_1 : m_G 67 1 L (.int x0 :: st) μ = if x0 < 0 then m_G 67 21 L st μ else m_G 67 4 L st μ := g_iflt (off := 20) (by decide +kernel) (by decide)
theorem i67_4 : m_G 67 4 [v0, .int x0] st μ = m_G 67 5 [v0, .int x0] (.int x0 :: st) μ := g_iload_n (i := 1) (by decide +kernel) rfl
theorem i67_5 : m_G 67 5 [.ref a0, v1] st μ = m_G 67 6 [.ref a0, v1] (.ref a0 :: st) μ := g_aload_n (i := 0) (by decide +kernel) rfl
theorem i67_6 : m_G 67 6 L (.ref a0 :: st) μ = b_v (m_gf μ a0 8 3) 67 9 L st μ := g_getf (i := 101) (by decide +kernel) (by decide +kernel)
theorem i67_9 : m_G 67 9 L (.int x1 :: .int x0 :: st) μ = if x0 < x1 then m_G 67 12 L st μ else m_G 67 21 L st μ := g_cmpge (off := 12) (by decide +kernel) (by decide)
theorem i67_12 : m_G 67 12 [.ref a0, v1] st μ = m_G 67 13 [.ref a0, v1] (.ref a0 :: st) μ := g_aload_n (i := 0) (by decide +kernel) rfl
theorem i67_13 : m_G 67 13 L (.ref a0 :: st) μ = b_v (m_gf μ a0 8 2) 67 16 L st μ := g_getf (i := 15) (by decide +kernel) (by decide +kernel)
theorem i67_16 : m_G 67 16 [v0, .int x0] st μ = m_G 67 17 [v0, .int x0] (.int x0 :: st) μ := g_iload_n (i := 1) (by decide +kernel) rfl
theorem i67_17 : m_G 67 17 L (.int x0 :: .ref a0 :: st) μ = b_r (m_gr μ a0 x0) 67 18 L st μ := g_aald (by decide +kernel)
theorem i67_18 : m_G 67 18 L st μ = m_G 67 22 L st μ := g_goto (off := 4) (by decide +kernel) (by decide)
theorem i67_21 : m_G 67 21 L st μ = m_G 67 22 L (.null :: st) μ := g_null (by decide +kernel)
theorem i67_22 : m_G 67 22 L [.ref a0] μ = some (some (.ref a0), μ) := g_aret (by decide +kernel) (by decide)
theorem i67_22N : m_G 67 22 L [.null] μ = some (some .null, μ) := g_aretN (by decide +kernel) (by decide)
theorem D67 : m_D 67 [.ref a0, .int x0] μ = m_G 67 0 [.ref a0, .int x0] [] μ := d_def (by decide) rfl
theorem i68_0 : m_G 68 0 [v0, .int x0] st μ = m_G 68 1 [v0, .int x0] (.int x0 :: st) μ := g_iload_n (i := 1) (by decide +kernel) rfl
theorem i68_1 : m_G 68 1 L (.int x0 :: st) μ = if x0 < 0 then m_G 68 21 L st μ else m_G 68 4 L st μ := g_iflt (off := 20) (by decide +kernel) (by decide)
theorem i68_4 : m_G 68 4 [v0, .int x0] st μ = m_G 68 5 [v0, .int x0] (.int x0 :: st) μ := g_iload_n (i := 1) (by decide +kernel) rfl
theorem i68_5 : m_G 68 5 [.ref a0, v1] st μ = m_G 68 6 [.ref a0, v1] (.ref a0 :: st) μ := g_aload_n (i := 0) (by decide +kernel) rfl
theorem i68_6 : m_G 68 6 L (.ref a0 :: st) μ = b_v (m_gf μ a0 8 5) 68 9 L st μ := g_getf (i := 114) (by decide +kernel) (by decide +kernel)
theorem i68_9 : m_G 68 9 L (.int x1 :: .int x0 :: st) μ = if x0 < x1 then m_G 68 12 L st μ else m_G 68 21 L st μ := g_cmpge (off := 12) (by decide +kernel) (by decide)
theorem i68_12 : m_G 68 12 [.ref a0, v1] st μ = m_G 68 13 [.ref a0, v1] (.ref a0 :: st) μ := g_aload_n (i := 0) (by decide +kernel) rfl
theorem i68_13 : m_G 68 13 L (.ref a0 :: st) μ = b_v (m_gf μ a0 8 4) 68 16 L st μ := g_getf (i := 21) (by decide +kernel) (by decide +kernel)
theorem i68_16 : m_G 68 16 [v0, .int x0] st μ = m_G 68 17 [v0, .int x0] (.int x0 :: st) μ := g_iload_n (i := 1) (by decide +kernel) rfl
theorem i68_17 : m_G 68 17 L (.int x0 :: .ref a0 :: st) μ = b_r (m_gr μ a0 x0) 68 18 L st μ := g_aald (by decide +kernel)
theorem i68_18 : m_G 68 18 L st μ = m_G 68 22 L st μ := g_goto (off := 4) (by decide +kernel) (by decide)
theorem i68_21 : m_G 68 21 L st μ = m_G 68 22 L (.null :: st) μ := g_null (by decide +kernel)
theorem i68_22 : m_G 68 22 L [.ref a0] μ = some (some (.ref a0), μ) := g_aret (by decide +kernel) (by decide)
theorem i68_22N : m_G 68 22 L [.null] μ = some (some .null, μ) := g_aretN (by decide +kernel) (by decide)
theorem D68 : m_D 68 [.ref a0, .int x0] μ = m_G 68 0 [.ref a0, .int x0] [] μ := d_def (by decide) rfl
theorem i69_0 : m_G 69 0 [v0, .int x0] st μ = m_G 69 1 [v0, .int x0] (.int x0 :: st) μ := g_iload_n (i := 1) (by decide +kernel) rfl
theorem i69_1 : m_G 69 1 L (.int x0 :: st) μ = if x0 < 0 then m_G 69 21 L st μ else m_G 69 4 L st μ := g_iflt (off := 20) (by decide +kernel) (by decide)
theorem i69_4 : m_G 69 4 [v0, .int x0] st μ = m_G 69 5 [v0, .int x0] (.int x0 :: st) μ := g_iload_n (i := 1) (by decide +kernel) rfl
theorem i69_5 : m_G 69 5 [.ref a0, v1] st μ = m_G 69 6 [.ref a0, v1] (.ref a0 :: st) μ := g_aload_n (i := 0) (by decide +kernel) rfl
theorem i69_6 : m_G 69 6 L (.ref a0 :: st) μ = b_v (m_gf μ a0 8 7) 69 9 L st μ := g_getf (i := 120) (by decide +kernel) (by decide +kernel)
theorem i69_9 : m_G 69 9 L (.int x1 :: .int x0 :: st) μ = if x0 < x1 then m_G 69 12 L st μ else m_G 69 21 L st μ := g_cmpge (off := 12) (by decide +kernel) (by decide)
theorem i69_12 : m_G 69 12 [.ref a0, v1] st μ = m_G 69 13 [.ref a0, v1] (.ref a0 :: st) μ := g_aload_n (i := 0) (by decide +kernel) rfl
theorem i69_13 : m_G 69 13 L (.ref a0 :: st) μ = b_v (m_gf μ a0 8 6) 69 16 L st μ := g_getf (i := 27) (by decide +kernel) (by decide +kernel)
theorem i69_16 : m_G 69 16 [v0, .int x0] st μ = m_G 69 17 [v0, .int x0] (.int x0 :: st) μ := g_iload_n (i := 1) (by decide +kernel) rfl
theorem i69_17 : m_G 69 17 L (.int x0 :: .ref a0 :: st) μ = b_r (m_gr μ a0 x0) 69 18 L st μ := g_aald (by decide +kernel)
theorem i69_18 : m_G 69 18 L st μ = m_G 69 22 L st μ := g_goto (off := 4) (by decide +kernel) (by decide)
theorem i69_21 : m_G 69 21 L st μ = m_G 69 22 L (.null :: st) μ := g_null (by decide +kernel)
theorem i69_22 : m_G 69 22 L [.ref a0] μ = some (some (.ref a0), μ) := g_aret (by decide +kernel) (by decide)
theorem i69_22N : m_G 69 22 L [.null] μ = some (some .null, μ) := g_aretN (by decide +kernel) (by decide)
theorem D69 : m_D 69 [.ref a0, .int x0] μ = m_G 69 0 [.ref a0, .int x0] [] μ := d_def (by decide) rfl
theorem i70_0 : m_G 70 0 [.ref a0, v1, v2, v3] st μ = m_G 70 1 [.ref a0, v1, v2, v3] (.ref a0 :: st) μ := g_aload_n (i := 0) (by decide +kernel) rfl
theorem i70_1 : m_G 70 1 [v0, .int x0, v2, v3] st μ = m_G 70 2 [v0, .int x0, v2, v3] (.int x0 :: st) μ := g_iload_n (i := 1) (by decide +kernel) rfl
theorem i70_2 (ho : m_oc μ a0 = some 8) : m_G 70 2 L (.int x0 :: .ref a0 :: []) μ = b_c (m_D 68 [.ref a0, .int x0] μ) 70 5 L [] := g_virt (i := 123) (n := 1) (a := a0) (c := 8) (l := [(8, 68)]) (by decide +kernel) (by decide +kernel) rfl rfl (x_call_ok (ws := [1, 1]) (Nat.le_of_ble_eq_true rfl) rfl (by decide +kernel) rfl (by decide +kernel) rfl rfl) ho
theorem i70_5 : m_G 70 5 [v0, v1, v2, v3] (.ref a0 :: st) μ = m_G 70 6 [v0, v1, v2, .ref a0] st μ := g_astore_n (i := 3) (by decide +kernel) (Nat.le_of_ble_eq_true rfl) rfl
theorem i70_5N : m_G 70 5 [v0, v1, v2, v3] (.null :: st) μ = m_G 70 6 [v0, v1, v2, .null] st μ := g_astore_nN (i := 3) (by decide +kernel) (Nat.le_of_ble_eq_true rfl) rfl
theorem i70_6 : m_G 70 6 [v0, v1, v2, .ref a0] st μ = m_G 70 7 [v0, v1, v2, .ref a0] (.ref a0 :: st) μ := g_aload_n (i := 3) (by decide +kernel) rfl
theorem i70_6N : m_G 70 6 [v0, v1, v2, .null] st μ = m_G 70 7 [v0, v1, v2, .null] (.null :: st) μ := g_aload_nN (i := 3) (by decide +kernel) rfl
theorem i70_7 : m_G 70 7 L (.ref a0 :: st) μ = m_G 70 13 L st μ := g_ifnonnull (off := 6) (by decide +kernel) (by decide)
theorem i70_7N : m_G 70 7 L (.null :: st) μ = m_G 70 10 L st μ := g_ifnonnullN (off := 6) (by decide +kernel)
theorem i70_10 : m_G 70 10 L st μ = m_G 70 12 L (.int (-101) :: st) μ := g_bipush (n := -101) (by decide +kernel) (by decide)
theorem i70_12 : m_G 70 12 L [.int x0] μ = some (some (.int x0), μ) := g_ireti (by decide +kernel) (by decide)
theorem i70_13 : m_G 70 13 [v0, v1, .int x0, v3] st μ = m_G 70 14 [v0, v1, .int x0, v3] (.int x0 :: st) μ := g_iload_n (i := 2) (by decide +kernel) rfl
theorem i70_14 : m_G 70 14 L (.int x0 :: []) μ = b_c (m_D 66 [.int x0] μ) 70 17 L [] := g_stat (i := 111) (n := 1) (by decide +kernel) (by decide +kernel) (by decide) (x_call_ok (ws := [1]) (Nat.le_of_ble_eq_true rfl) rfl (by decide +kernel) rfl (by decide +kernel) rfl rfl)
theorem i70_17 : m_G 70 17 L (.int x0 :: st) μ = if x0 = 0 then m_G 70 20 L st μ else m_G 70 23 L st μ := g_ifne (off := 6) (by decide +kernel) (by decide)
theorem i70_20 : m_G 70 20 L st μ = m_G 70 22 L (.int (-102) :: st) μ := g_bipush (n := -102) (by decide +kernel) (by decide)
theorem i70_22 : m_G 70 22 L [.int x0] μ = some (some (.int x0), μ) := g_ireti (by decide +kernel) (by decide)
theorem i70_23 : m_G 70 23 [v0, v1, v2, .ref a0] st μ = m_G 70 24 [v0, v1, v2, .ref a0] (.ref a0 :: st) μ := g_aload_n (i := 3) (by decide +kernel) rfl
theorem i70_23N : m_G 70 23 [v0, v1, v2, .null] st μ = m_G 70 24 [v0, v1, v2, .null] (.null :: st) μ := g_aload_nN (i := 3) (by decide +kernel) rfl
theorem i70_24 : m_G 70 24 [v0, v1, .int x0, v3] st μ = m_G 70 25 [v0, v1, .int x0, v3] (.int x0 :: st) μ := g_iload_n (i := 2) (by decide +kernel) rfl
theorem i70_25 (ho : m_oc μ a0 = some 6) : m_G 70 25 L (.int x0 :: .ref a0 :: []) μ = b_c (m_D 48 [.ref a0, .int x0] μ) 70 28 L [] := g_virt (i := 127) (n := 1) (a := a0) (c := 6) (l := [(6, 48)]) (by decide +kernel) (by decide +kernel) rfl rfl (x_call_ok (ws := [1, 1]) (Nat.le_of_ble_eq_true rfl) rfl (by decide +kernel) rfl (by decide +kernel) rfl rfl) ho
theorem i70_28 : m_G 70 28 L (.int x0 :: st) μ = if x0 = 0 then m_G 70 35 L st μ else m_G 70 31 L st μ := g_ifeq (off := 7) (by decide +kernel) (by decide)
theorem i70_31 : m_G 70 31 [v0, .int x0, v2, v3] st μ = m_G 70 32 [v0, .int x0, v2, v3] (.int x0 :: st) μ := g_iload_n (i := 1) (by decide +kernel) rfl
theorem i70_32 : m_G 70 32 L st μ = m_G 70 36 L st μ := g_goto (off := 4) (by decide +kernel) (by decide)
theorem i70_35 : m_G 70 35 L st μ = m_G 70 36 L (.int (-1) :: st) μ := g_iconst (n := -1) (by decide +kernel) (by decide)
theorem i70_36 : m_G 70 36 L [.int x0] μ = some (some (.int x0), μ) := g_ireti (by decide +kernel) (by decide)
theorem D70 : m_D 70 [.ref a0, .int x0, .int x1] μ = m_G 70 0 [.ref a0, .int x0, .int x1, m_d] [] μ := d_def (by decide) rfl
theorem i71_0 : m_G 71 0 [.ref a0, v1, v2, v3, v4] st μ = m_G 71 1 [.ref a0, v1, v2, v3, v4] (.ref a0 :: st) μ := g_aload_n (i := 0) (by decide +kernel) rfl
theorem i71_1 : m_G 71 1 [v0, .int x0, v2, v3, v4] st μ = m_G 71 2 [v0, .int x0, v2, v3, v4] (.int x0 :: st) μ := g_iload_n (i := 1) (by decide +kernel) rfl
theorem i71_2 (ho : m_oc μ a0 = some 8) : m_G 71 2 L (.int x0 :: .ref a0 :: []) μ = b_c (m_D 67 [.ref a0, .int x0] μ) 71 5 L [] := g_virt (i := 130) (n := 1) (a := a0) (c := 8) (l := [(8, 67)]) (by decide +kernel) (by decide +kernel) rfl rfl (x_call_ok (ws := [1, 1]) (Nat.le_of_ble_eq_true rfl) rfl (by decide +kernel) rfl (by decide +kernel) rfl rfl) ho
theorem i71_5 : m_G 71 5 [v0, v1, v2, v3, v4] (.ref a0 :: st) μ = m_G 71 7 [v0, v1, v2, v3, .ref a0] st μ := g_astore (i := 4) (by decide +kernel) (Nat.le_of_ble_eq_true rfl) rfl
theorem i71_5N : m_G 71 5 [v0, v1, v2, v3, v4] (.null :: st) μ = m_G 71 7 [v0, v1, v2, v3, .null] st μ := g_astoreN (i := 4) (by decide +kernel) (Nat.le_of_ble_eq_true rfl) rfl
theorem i71_7 : m_G 71 7 [v0, v1, v2, v3, .ref a0] st μ = m_G 71 9 [v0, v1, v2, v3, .ref a0] (.ref a0 :: st) μ := g_aload (i := 4) (by decide +kernel) rfl
theorem i71_7N : m_G 71 7 [v0, v1, v2, v3, .null] st μ = m_G 71 9 [v0, v1, v2, v3, .null] (.null :: st) μ := g_aloadN (i := 4) (by decide +kernel) rfl
theorem i71_9 : m_G 71 9 L (.ref a0 :: st) μ = m_G 71 12 L st μ := g_ifnull (off := 12) (by decide +kernel)
theorem i71_9N : m_G 71 9 L (.null :: st) μ = m_G 71 21 L st μ := g_ifnullN (off := 12) (by decide +kernel) (by decide)
theorem i71_12 : m_G 71 12 [v0, v1, v2, v3, .ref a0] st μ = m_G 71 14 [v0, v1, v2, v3, .ref a0] (.ref a0 :: st) μ := g_aload (i := 4) (by decide +kernel) rfl
theorem i71_12N : m_G 71 12 [v0, v1, v2, v3, .null] st μ = m_G 71 14 [v0, v1, v2, v3, .null] (.null :: st) μ := g_aloadN (i := 4) (by decide +kernel) rfl
theorem i71_14 : m_G 71 14 [v0, v1, .int x0, v3, v4] st μ = m_G 71 15 [v0, v1, .int x0, v3, v4] (.int x0 :: st) μ := g_iload_n (i := 2) (by decide +kernel) rfl
theorem i71_15 (ho : m_oc μ a0 = some 3) : m_G 71 15 L (.int x0 :: .ref a0 :: []) μ = b_c (m_D 17 [.ref a0, .int x0] μ) 71 18 L [] := g_virt (i := 134) (n := 1) (a := a0) (c := 3) (l := [(3, 17)]) (by decide +kernel) (by decide +kernel) rfl rfl (x_call_ok (ws := [1, 1]) (Nat.le_of_ble_eq_true rfl) rfl (by decide +kernel) rfl (by decide +kernel) rfl rfl) ho
theorem i71_18 : m_G 71 18 L (.int x0 :: st) μ = if x0 = 0 then m_G 71 21 L st μ else m_G 71 24 L st μ := g_ifne (off := 6) (by decide +kernel) (by decide)
theorem i71_21 : m_G 71 21 L st μ = m_G 71 23 L (.int (-101) :: st) μ := g_bipush (n := -101) (by decide +kernel) (by decide)
theorem i71_23 : m_G 71 23 L [.int x0] μ = some (some (.int x0), μ) := g_ireti (by decide +kernel) (by decide)
theorem i71_24 : m_G 71 24 [v0, v1, v2, .int x0, v4] st μ = m_G 71 25 [v0, v1, v2, .int x0, v4] (.int x0 :: st) μ := g_iload_n (i := 3) (by decide +kernel) rfl
theorem i71_25_0 : m_G 71 25 L (.int 0 :: st) μ = m_G 71 60 L st μ := g_tab (dd := 78) (lo := 0) (hi := 4) (offs := #[35, 43, 51, 59, 70]) (len := 35) (off := 35) (by decide +kernel) (by decide) (by decide) (by decide)
theorem i71_25_1 : m_G 71 25 L (.int 1 :: st) μ = m_G 71 68 L st μ := g_tab (dd := 78) (lo := 0) (hi := 4) (offs := #[35, 43, 51, 59, 70]) (len := 35) (off := 43) (by decide +kernel) (by decide) (by decide) (by decide)
theorem i71_25_2 : m_G 71 25 L (.int 2 :: st) μ = m_G 71 76 L st μ := g_tab (dd := 78) (lo := 0) (hi := 4) (offs := #[35, 43, 51, 59, 70]) (len := 35) (off := 51) (by decide +kernel) (by decide) (by decide) (by decide)
theorem i71_25_3 : m_G 71 25 L (.int 3 :: st) μ = m_G 71 84 L st μ := g_tab (dd := 78) (lo := 0) (hi := 4) (offs := #[35, 43, 51, 59, 70]) (len := 35) (off := 59) (by decide +kernel) (by decide) (by decide) (by decide)
theorem i71_25_4 : m_G 71 25 L (.int 4 :: st) μ = m_G 71 95 L st μ := g_tab (dd := 78) (lo := 0) (hi := 4) (offs := #[35, 43, 51, 59, 70]) (len := 35) (off := 70) (by decide +kernel) (by decide) (by decide) (by decide)
theorem i71_25_d (h : x0.toInt < 0 ∨ 4 < x0.toInt) : m_G 71 25 L (.int x0 :: st) μ = m_G 71 103 L st μ := g_tabO (dd := 78) (lo := 0) (hi := 4) (offs := #[35, 43, 51, 59, 70]) (len := 35) (by decide +kernel) h (by decide)
theorem i71_60 : m_G 71 60 [v0, v1, v2, v3, .ref a0] st μ = m_G 71 62 [v0, v1, v2, v3, .ref a0] (.ref a0 :: st) μ := g_aload (i := 4) (by decide +kernel) rfl
theorem i71_60N : m_G 71 60 [v0, v1, v2, v3, .null] st μ = m_G 71 62 [v0, v1, v2, v3, .null] (.null :: st) μ := g_aloadN (i := 4) (by decide +kernel) rfl
theorem i71_62 : m_G 71 62 L (.ref a0 :: st) μ = b_v (m_gf μ a0 3 1) 71 65 L st μ := g_getf (i := 137) (by decide +kernel) (by decide +kernel)
theorem i71_65 : m_G 71 65 [v0, v1, .int x0, v3, v4] st μ = m_G 71 66 [v0, v1, .int x0, v3, v4] (.int x0 :: st) μ := g_iload_n (i := 2) (by decide +kernel) rfl
theorem i71_66 : m_G 71 66 L (.int x0 :: .ref a0 :: st) μ = b_i (m_ga μ a0 x0) 71 67 L st μ := g_iald (by decide +kernel)
theorem i71_67 : m_G 71 67 L [.int x0] μ = some (some (.int x0), μ) := g_ireti (by decide +kernel) (by decide)
theorem i71_68 : m_G 71 68 [v0, v1, v2, v3, .ref a0] st μ = m_G 71 70 [v0, v1, v2, v3, .ref a0] (.ref a0 :: st) μ := g_aload (i := 4) (by decide +kernel) rfl
theorem i71_68N : m_G 71 68 [v0, v1, v2, v3, .null] st μ = m_G 71 70 [v0, v1, v2, v3, .null] (.null :: st) μ := g_aloadN (i := 4) (by decide +kernel) rfl
theorem i71_70 : m_G 71 70 L (.ref a0 :: st) μ = b_v (m_gf μ a0 3 2) 71 73 L st μ := g_getf (i := 140) (by decide +kernel) (by decide +kernel)
theorem i71_73 : m_G 71 73 [v0, v1, .int x0, v3, v4] st μ = m_G 71 74 [v0, v1, .int x0, v3, v4] (.int x0 :: st) μ := g_iload_n (i := 2) (by decide +kernel) rfl
theorem i71_74 : m_G 71 74 L (.int x0 :: .ref a0 :: st) μ = b_i (m_ga μ a0 x0) 71 75 L st μ := g_iald (by decide +kernel)
theorem i71_75 : m_G 71 75 L [.int x0] μ = some (some (.int x0), μ) := g_ireti (by decide +kernel) (by decide)
theorem i71_76 : m_G 71 76 [v0, v1, v2, v3, .ref a0] st μ = m_G 71 78 [v0, v1, v2, v3, .ref a0] (.ref a0 :: st) μ := g_aload (i := 4) (by decide +kernel) rfl
theorem i71_76N : m_G 71 76 [v0, v1, v2, v3, .null] st μ = m_G 71 78 [v0, v1, v2, v3, .null] (.null :: st) μ := g_aloadN (i := 4) (by decide +kernel) rfl
theorem i71_78 : m_G 71 78 L (.ref a0 :: st) μ = b_v (m_gf μ a0 3 3) 71 81 L st μ := g_getf (i := 143) (by decide +kernel) (by decide +kernel)
theorem i71_81 : m_G 71 81 [v0, v1, .int x0, v3, v4] st μ = m_G 71 82 [v0, v1, .int x0, v3, v4] (.int x0 :: st) μ := g_iload_n (i := 2) (by decide +kernel) rfl
theorem i71_82 : m_G 71 82 L (.int x0 :: .ref a0 :: st) μ = b_i (m_ga μ a0 x0) 71 83 L st μ := g_iald (by decide +kernel)
theorem i71_83 : m_G 71 83 L [.int x0] μ = some (some (.int x0), μ) := g_ireti (by decide +kernel) (by decide)
theorem i71_84 : m_G 71 84 [v0, v1, v2, v3, .ref a0] st μ = m_G 71 86 [v0, v1, v2, v3, .ref a0] (.ref a0 :: st) μ := g_aload (i := 4) (by decide +kernel) rfl
theorem i71_84N : m_G 71 84 [v0, v1, v2, v3, .null] st μ = m_G 71 86 [v0, v1, v2, v3, .null] (.null :: st) μ := g_aloadN (i := 4) (by decide +kernel) rfl
theorem i71_86 : m_G 71 86 L (.ref a0 :: st) μ = b_v (m_gf μ a0 3 5) 71 89 L st μ := g_getf (i := 146) (by decide +kernel) (by decide +kernel)
theorem i71_89 : m_G 71 89 [v0, v1, .int x0, v3, v4] st μ = m_G 71 90 [v0, v1, .int x0, v3, v4] (.int x0 :: st) μ := g_iload_n (i := 2) (by decide +kernel) rfl
theorem i71_90 : m_G 71 90 L (.int x0 :: .ref a0 :: st) μ = b_i (m_ga μ a0 x0) 71 91 L st μ := g_iald (by decide +kernel)
theorem i71_91 : m_G 71 91 L (.int x0 :: []) μ = b_c (m_D 169 [.int x0] μ) 71 94 L [] := g_stat (i := 149) (n := 1) (by decide +kernel) (by decide +kernel) (by decide) (x_call_ok (ws := [1]) (Nat.le_of_ble_eq_true rfl) rfl (by decide +kernel) rfl (by decide +kernel) rfl rfl)
theorem i71_94 : m_G 71 94 L [.int x0] μ = some (some (.int x0), μ) := g_ireti (by decide +kernel) (by decide)
theorem i71_95 : m_G 71 95 [v0, v1, v2, v3, .ref a0] st μ = m_G 71 97 [v0, v1, v2, v3, .ref a0] (.ref a0 :: st) μ := g_aload (i := 4) (by decide +kernel) rfl
theorem i71_95N : m_G 71 95 [v0, v1, v2, v3, .null] st μ = m_G 71 97 [v0, v1, v2, v3, .null] (.null :: st) μ := g_aloadN (i := 4) (by decide +kernel) rfl
theorem i71_97 : m_G 71 97 L (.ref a0 :: st) μ = b_v (m_gf μ a0 3 4) 71 100 L st μ := g_getf (i := 155) (by decide +kernel) (by decide +kernel)
theorem i71_100 : m_G 71 100 [v0, v1, .int x0, v3, v4] st μ = m_G 71 101 [v0, v1, .int x0, v3, v4] (.int x0 :: st) μ := g_iload_n (i := 2) (by decide +kernel) rfl
theorem i71_101 : m_G 71 101 L (.int x0 :: .ref a0 :: st) μ = b_i (m_ga μ a0 x0) 71 102 L st μ := g_iald (by decide +kernel)
theorem i71_102 : m_G 71 102 L [.int x0] μ = some (some (.int x0), μ) := g_ireti (by decide +kernel) (by decide)
theorem i71_103 : m_G 71 103 L st μ = m_G 71 105 L (.int (-102) :: st) μ := g_bipush (n := -102) (by decide +kernel) (by decide)
theorem i71_105 : m_G 71 105 L [.int x0] μ = some (some (.int x0), μ) := g_ireti (by decide +kernel) (by decide)
theorem D71 : m_D 71 [.ref a0, .int x0, .int x1, .int x2] μ = m_G 71 0 [.ref a0, .int x0, .int x1, .int x2, m_d] [] μ := d_def (by decide) rfl
theorem i72_0 : m_G 72 0 [.ref a0, v1, v2, v3, v4] st μ = m_G 72 1 [.ref a0, v1, v2, v3, v4] (.ref a0 :: st) μ := g_aload_n (i := 0) (by decide +kernel) rfl
theorem i72_1 : m_G 72 1 [v0, .int x0, v2, v3, v4] st μ = m_G 72 2 [v0, .int x0, v2, v3, v4] (.int x0 :: st) μ := g_iload_n (i := 1) (by decide +kernel) rfl
theorem i72_2 (ho : m_oc μ a0 = some 8) : m_G 72 2 L (.int x0 :: .ref a0 :: []) μ = b_c (m_D 68 [.ref a0, .int x0] μ) 72 5 L [] := g_virt (i := 123) (n := 1) (a := a0) (c := 8) (l := [(8, 68)]) (by decide +kernel) (by decide +kernel) rfl rfl (x_call_ok (ws := [1, 1]) (Nat.le_of_ble_eq_true rfl) rfl (by decide +kernel) rfl (by decide +kernel) rfl rfl) ho
theorem i72_5 : m_G 72 5 [v0, v1, v2, v3, v4] (.ref a0 :: st) μ = m_G 72 6 [v0, v1, v2, .ref a0, v4] st μ := g_astore_n (i := 3) (by decide +kernel) (Nat.le_of_ble_eq_true rfl) rfl
theorem i72_5N : m_G 72 5 [v0, v1, v2, v3, v4] (.null :: st) μ = m_G 72 6 [v0, v1, v2, .null, v4] st μ := g_astore_nN (i := 3) (by decide +kernel) (Nat.le_of_ble_eq_true rfl) rfl
theorem i72_6 : m_G 72 6 [.ref a0, v1, v2, v3, v4] st μ = m_G 72 7 [.ref a0, v1, v2, v3, v4] (.ref a0 :: st) μ := g_aload_n (i := 0) (by decide +kernel) rfl
theorem i72_7 : m_G 72 7 [v0, v1, .int x0, v3, v4] st μ = m_G 72 8 [v0, v1, .int x0, v3, v4] (.int x0 :: st) μ := g_iload_n (i := 2) (by decide +kernel) rfl
theorem i72_8 (ho : m_oc μ a0 = some 8) : m_G 72 8 L (.int x0 :: .ref a0 :: []) μ = b_c (m_D 67 [.ref a0, .int x0] μ) 72 11 L [] := g_virt (i := 130) (n := 1) (a := a0) (c := 8) (l := [(8, 67)]) (by decide +kernel) (by decide +kernel) rfl rfl (x_call_ok (ws := [1, 1]) (Nat.le_of_ble_eq_true rfl) rfl (by decide +kernel) rfl (by decide +kernel) rfl rfl) ho
theorem i72_11 : m_G 72 11 [v0, v1, v2, v3, v4] (.ref a0 :: st) μ = m_G 72 13 [v0, v1, v2, v3, .ref a0] st μ := g_astore (i := 4) (by decide +kernel) (Nat.le_of_ble_eq_true rfl) rfl
theorem i72_11N : m_G 72 11 [v0, v1, v2, v3, v4] (.null :: st) μ = m_G 72 13 [v0, v1, v2, v3, .null] st μ := g_astoreN (i := 4) (by decide +kernel) (Nat.le_of_ble_eq_true rfl) rfl
theorem i72_13 : m_G 72 13 [v0, v1, v2, .ref a0, v4] st μ = m_G 72 14 [v0, v1, v2, .ref a0, v4] (.ref a0 :: st) μ := g_aload_n (i := 3) (by decide +kernel) rfl
theorem i72_13N : m_G 72 13 [v0, v1, v2, .null, v4] st μ = m_G 72 14 [v0, v1, v2, .null, v4] (.null :: st) μ := g_aload_nN (i := 3) (by decide +kernel) rfl
theorem i72_14 : m_G 72 14 L (.ref a0 :: st) μ = m_G 72 17 L st μ := g_ifnull (off := 8) (by decide +kernel)
theorem i72_14N : m_G 72 14 L (.null :: st) μ = m_G 72 22 L st μ := g_ifnullN (off := 8) (by decide +kernel) (by decide)
theorem i72_17 : m_G 72 17 [v0, v1, v2, v3, .ref a0] st μ = m_G 72 19 [v0, v1, v2, v3, .ref a0] (.ref a0 :: st) μ := g_aload (i := 4) (by decide +kernel) rfl
theorem i72_17N : m_G 72 17 [v0, v1, v2, v3, .null] st μ = m_G 72 19 [v0, v1, v2, v3, .null] (.null :: st) μ := g_aloadN (i := 4) (by decide +kernel) rfl
theorem i72_19 : m_G 72 19 L (.ref a0 :: st) μ = m_G 72 25 L st μ := g_ifnonnull (off := 6) (by decide +kernel) (by decide)
theorem i72_19N : m_G 72 19 L (.null :: st) μ = m_G 72 22 L st μ := g_ifnonnullN (off := 6) (by decide +kernel)
theorem i72_22 : m_G 72 22 L st μ = m_G 72 24 L (.int (-101) :: st) μ := g_bipush (n := -101) (by decide +kernel) (by decide)
theorem i72_24 : m_G 72 24 L [.int x0] μ = some (some (.int x0), μ) := g_ireti (by decide +kernel) (by decide)
theorem i72_25 : m_G 72 25 [v0, v1, v2, .ref a0, v4] st μ = m_G 72 26 [v0, v1, v2, .ref a0, v4] (.ref a0 :: st) μ := g_aload_n (i := 3) (by decide +kernel) rfl
theorem i72_25N : m_G 72 25 [v0, v1, v2, .null, v4] st μ = m_G 72 26 [v0, v1, v2, .null, v4] (.null :: st) μ := g_aload_nN (i := 3) (by decide +kernel) rfl
theorem i72_26 : m_G 72 26 [v0, v1, v2, v3, .ref a0] st μ = m_G 72 28 [v0, v1, v2, v3, .ref a0] (.ref a0 :: st) μ := g_aload (i := 4) (by decide +kernel) rfl
theorem i72_26N : m_G 72 26 [v0, v1, v2, v3, .null] st μ = m_G 72 28 [v0, v1, v2, v3, .null] (.null :: st) μ := g_aloadN (i := 4) (by decide +kernel) rfl
theorem i72_28 : m_G 72 28 L st μ = m_G 72 29 L (.int 1 :: st) μ := g_iconst (n := 1) (by decide +kernel) (by decide)
theorem i72_29 (ho : m_oc μ a0 = some 6) : m_G 72 29 L (.int x1 :: .ref a1 :: .ref a0 :: []) μ = b_c (m_D 49 [.ref a0, .ref a1, .int x1] μ) 72 32 L [] := g_virt (i := 158) (n := 2) (a := a0) (c := 6) (l := [(6, 49)]) (by decide +kernel) (by decide +kernel) rfl rfl (x_call_ok (ws := [1, 1, 1]) (Nat.le_of_ble_eq_true rfl) rfl (by decide +kernel) rfl (by decide +kernel) rfl rfl) ho
theorem i72_32 : m_G 72 32 L [.int x0] μ = some (some (.int x0), μ) := g_ireti (by decide +kernel) (by decide)
theorem D72 : m_D 72 [.ref a0, .int x0, .int x1] μ = m_G 72 0 [.ref a0, .int x0, .int x1, m_d, m_d] [] μ := d_def (by decide) rfl
theorem i73_0 : m_G 73 0 [.ref a0, v1, v2, v3, v4, v5, v6] st μ = m_G 73 1 [.ref a0, v1, v2, v3, v4, v5, v6] (.ref a0 :: st) μ := g_aload_n (i := 0) (by decide +kernel) rfl
theorem i73_1 : m_G 73 1 [v0, .int x0, v2, v3, v4, v5, v6] st μ = m_G 73 2 [v0, .int x0, v2, v3, v4, v5, v6] (.int x0 :: st) μ := g_iload_n (i := 1) (by decide +kernel) rfl
theorem i73_2 (ho : m_oc μ a0 = some 8) : m_G 73 2 L (.int x0 :: .ref a0 :: []) μ = b_c (m_D 68 [.ref a0, .int x0] μ) 73 5 L [] := g_virt (i := 123) (n := 1) (a := a0) (c := 8) (l := [(8, 68)]) (by decide +kernel) (by decide +kernel) rfl rfl (x_call_ok (ws := [1, 1]) (Nat.le_of_ble_eq_true rfl) rfl (by decide +kernel) rfl (by decide +kernel) rfl rfl) ho
theorem i73_5 : m_G 73 5 [v0, v1, v2, v3, v4, v5, v6] (.ref a0 :: st) μ = m_G 73 7 [v0, v1, v2, v3, .ref a0, v5, v6] st μ := g_astore (i := 4) (by decide +kernel) (Nat.le_of_ble_eq_true rfl) rfl
theorem i73_5N : m_G 73 5 [v0, v1, v2, v3, v4, v5, v6] (.null :: st) μ = m_G 73 7 [v0, v1, v2, v3, .null, v5, v6] st μ := g_astoreN (i := 4) (by decide +kernel) (Nat.le_of_ble_eq_true rfl) rfl
theorem i73_7 : m_G 73 7 [.ref a0, v1, v2, v3, v4, v5, v6] st μ = m_G 73 8 [.ref a0, v1, v2, v3, v4, v5, v6] (.ref a0 :: st) μ := g_aload_n (i := 0) (by decide +kernel) rfl
theorem i73_8 : m_G 73 8 [v0, v1, .int x0, v3, v4, v5, v6] st μ = m_G 73 9 [v0, v1, .int x0, v3, v4, v5, v6] (.int x0 :: st) μ := g_iload_n (i := 2) (by decide +kernel) rfl
theorem i73_9 (ho : m_oc μ a0 = some 8) : m_G 73 9 L (.int x0 :: .ref a0 :: []) μ = b_c (m_D 67 [.ref a0, .int x0] μ) 73 12 L [] := g_virt (i := 130) (n := 1) (a := a0) (c := 8) (l := [(8, 67)]) (by decide +kernel) (by decide +kernel) rfl rfl (x_call_ok (ws := [1, 1]) (Nat.le_of_ble_eq_true rfl) rfl (by decide +kernel) rfl (by decide +kernel) rfl rfl) ho
theorem i73_12 : m_G 73 12 [v0, v1, v2, v3, v4, v5, v6] (.ref a0 :: st) μ = m_G 73 14 [v0, v1, v2, v3, v4, .ref a0, v6] st μ := g_astore (i := 5) (by decide +kernel) (Nat.le_of_ble_eq_true rfl) rfl
theorem i73_12N : m_G 73 12 [v0, v1, v2, v3, v4, v5, v6] (.null :: st) μ = m_G 73 14 [v0, v1, v2, v3, v4, .null, v6] st μ := g_astoreN (i := 5) (by decide +kernel) (Nat.le_of_ble_eq_true rfl) rfl
theorem i73_14 : m_G 73 14 [v0, v1, v2, v3, .ref a0, v5, v6] st μ = m_G 73 16 [v0, v1, v2, v3, .ref a0, v5, v6] (.ref a0 :: st) μ := g_aload (i := 4) (by decide +kernel) rfl
theorem i73_14N : m_G 73 14 [v0, v1, v2, v3, .null, v5, v6] st μ = m_G 73 16 [v0, v1, v2, v3, .null, v5, v6] (.null :: st) μ := g_aloadN (i := 4) (by decide +kernel) rfl
theorem i73_16 : m_G 73 16 L (.ref a0 :: st) μ = m_G 73 19 L st μ := g_ifnull (off := 8) (by decide +kernel)
theorem i73_16N : m_G 73 16 L (.null :: st) μ = m_G 73 24 L st μ := g_ifnullN (off := 8) (by decide +kernel) (by decide)
theorem i73_19 : m_G 73 19 [v0, v1, v2, v3, v4, .ref a0, v6] st μ = m_G 73 21 [v0, v1, v2, v3, v4, .ref a0, v6] (.ref a0 :: st) μ := g_aload (i := 5) (by decide +kernel) rfl
theorem i73_19N : m_G 73 19 [v0, v1, v2, v3, v4, .null, v6] st μ = m_G 73 21 [v0, v1, v2, v3, v4, .null, v6] (.null :: st) μ := g_aloadN (i := 5) (by decide +kernel) rfl
theorem i73_21 : m_G 73 21 L (.ref a0 :: st) μ = m_G 73 27 L st μ := g_ifnonnull (off := 6) (by decide +kernel) (by decide)
theorem i73_21N : m_G 73 21 L (.null :: st) μ = m_G 73 24 L st μ := g_ifnonnullN (off := 6) (by decide +kernel)
theorem i73_24 : m_G 73 24 L st μ = m_G 73 26 L (.int (-101) :: st) μ := g_bipush (n := -101) (by decide +kernel) (by decide)
theorem i73_26 : m_G 73 26 L [.int x0] μ = some (some (.int x0), μ) := g_ireti (by decide +kernel) (by decide)
theorem i73_27 : m_G 73 27 [v0, v1, v2, v3, .ref a0, v5, v6] st μ = m_G 73 29 [v0, v1, v2, v3, .ref a0, v5, v6] (.ref a0 :: st) μ := g_aload (i := 4) (by decide +kernel) rfl
theorem i73_27N : m_G 73 27 [v0, v1, v2, v3, .null, v5, v6] st μ = m_G 73 29 [v0, v1, v2, v3, .null, v5, v6] (.null :: st) μ := g_aloadN (i := 4) (by decide +kernel) rfl
theorem i73_29 : m_G 73 29 [v0, v1, v2, v3, v4, .ref a0, v6] st μ = m_G 73 31 [v0, v1, v2, v3, v4, .ref a0, v6] (.ref a0 :: st) μ := g_aload (i := 5) (by decide +kernel) rfl
theorem i73_29N : m_G 73 29 [v0, v1, v2, v3, v4, .null, v6] st μ = m_G 73 31 [v0, v1, v2, v3, v4, .null, v6] (.null :: st) μ := g_aloadN (i := 5) (by decide +kernel) rfl
theorem i73_31 : m_G 73 31 L st μ = m_G 73 32 L (.int 1 :: st) μ := g_iconst (n := 1) (by decide +kernel) (by decide)
theorem i73_32 (ho : m_oc μ a0 = some 6) : m_G 73 32 L (.int x1 :: .ref a1 :: .ref a0 :: []) μ = b_c (m_D 49 [.ref a0, .ref a1, .int x1] μ) 73 35 L [] := g_virt (i := 158) (n := 2) (a := a0) (c := 6) (l := [(6, 49)]) (by decide +kernel) (by decide +kernel) rfl rfl (x_call_ok (ws := [1, 1, 1]) (Nat.le_of_ble_eq_true rfl) rfl (by decide +kernel) rfl (by decide +kernel) rfl rfl) ho
theorem i73_35 : m_G 73 35 [v0, v1, v2, .int x0, v4, v5, v6] st μ = m_G 73 36 [v0, v1, v2, .int x0, v4, v5, v6] (.int x0 :: st) μ := g_iload_n (i := 3) (by decide +kernel) rfl
theorem i73_36 : m_G 73 36 L (.int x1 :: .int x0 :: []) μ = b_c (m_D 98 [.int x0, .int x1] μ) 73 39 L [] := g_stat (i := 162) (n := 2) (by decide +kernel) (by decide +kernel) (by decide) (x_call_ok (ws := [1, 1]) (Nat.le_of_ble_eq_true rfl) rfl (by decide +kernel) rfl (by decide +kernel) rfl rfl)
theorem i73_39 : m_G 73 39 [v0, v1, v2, v3, v4, v5, v6] (.int x0 :: st) μ = m_G 73 41 [v0, v1, v2, v3, v4, v5, .int x0] st μ := g_istore (i := 6) (by decide +kernel) (Nat.le_of_ble_eq_true rfl) rfl
theorem i73_41 : m_G 73 41 [v0, v1, v2, v3, v4, v5, .int x0] st μ = m_G 73 43 [v0, v1, v2, v3, v4, v5, .int x0] (.int x0 :: st) μ := g_iload (i := 6) (by decide +kernel) rfl
theorem i73_43 : m_G 73 43 L st μ = m_G 73 44 L (.int (-1) :: st) μ := g_iconst (n := -1) (by decide +kernel) (by decide)
theorem i73_44 : m_G 73 44 L (.int x1 :: .int x0 :: st) μ = if x0 = x1 then m_G 73 47 L st μ else m_G 73 52 L st μ := g_cmpne (off := 8) (by decide +kernel) (by decide)
theorem i73_47 : m_G 73 47 L st μ = m_G 73 49 L (.int (-2) :: st) μ := g_bipush (n := -2) (by decide +kernel) (by decide)
theorem i73_49 : m_G 73 49 L st μ = m_G 73 60 L st μ := g_goto (off := 11) (by decide +kernel) (by decide)
theorem i73_52 : m_G 73 52 [v0, v1, v2, v3, v4, .ref a0, v6] st μ = m_G 73 54 [v0, v1, v2, v3, v4, .ref a0, v6] (.ref a0 :: st) μ := g_aload (i := 5) (by decide +kernel) rfl
theorem i73_52N : m_G 73 52 [v0, v1, v2, v3, v4, .null, v6] st μ = m_G 73 54 [v0, v1, v2, v3, v4, .null, v6] (.null :: st) μ := g_aloadN (i := 5) (by decide +kernel) rfl
theorem i73_54 : m_G 73 54 L (.ref a0 :: st) μ = b_v (m_gf μ a0 3 2) 73 57 L st μ := g_getf (i := 140) (by decide +kernel) (by decide +kernel)
theorem i73_57 : m_G 73 57 [v0, v1, v2, v3, v4, v5, .int x0] st μ = m_G 73 59 [v0, v1, v2, v3, v4, v5, .int x0] (.int x0 :: st) μ := g_iload (i := 6) (by decide +kernel) rfl
theorem i73_59 : m_G 73 59 L (.int x0 :: .ref a0 :: st) μ = b_i (m_ga μ a0 x0) 73 60 L st μ := g_iald (by decide +kernel)
theorem i73_60 : m_G 73 60 L [.int x0] μ = some (some (.int x0), μ) := g_ireti (by decide +kernel) (by decide)
theorem D73 : m_D 73 [.ref a0, .int x0, .int x1, .int x2] μ = m_G 73 0 [.ref a0, .int x0, .int x1, .int x2, m_d, m_d, m_d] [] μ := d_def (by decide) rfl
theorem i74_0 : m_G 74 0 [.ref a0, v1, v2, v3, v4, v5] st μ = m_G 74 1 [.ref a0, v1, v2, v3, v4, v5] (.ref a0 :: st) μ := g_aload_n (i := 0) (by decide +kernel) rfl
theorem i74_1 : m_G 74 1 [v0, .int x0, v2, v3, v4, v5] st μ = m_G 74 2 [v0, .int x0, v2, v3, v4, v5] (.int x0 :: st) μ := g_iload_n (i := 1) (by decide +kernel) rfl
theorem i74_2 (ho : m_oc μ a0 = some 8) : m_G 74 2 L (.int x0 :: .ref a0 :: []) μ = b_c (m_D 68 [.ref a0, .int x0] μ) 74 5 L [] := g_virt (i := 123) (n := 1) (a := a0) (c := 8) (l := [(8, 68)]) (by decide +kernel) (by decide +kernel) rfl rfl (x_call_ok (ws := [1, 1]) (Nat.le_of_ble_eq_true rfl) rfl (by decide +kernel) rfl (by decide +kernel) rfl rfl) ho
theorem i74_5 : m_G 74 5 [v0, v1, v2, v3, v4, v5] (.ref a0 :: st) μ = m_G 74 7 [v0, v1, v2, v3, .ref a0, v5] st μ := g_astore (i := 4) (by decide +kernel) (Nat.le_of_ble_eq_true rfl) rfl
theorem i74_5N : m_G 74 5 [v0, v1, v2, v3, v4, v5] (.null :: st) μ = m_G 74 7 [v0, v1, v2, v3, .null, v5] st μ := g_astoreN (i := 4) (by decide +kernel) (Nat.le_of_ble_eq_true rfl) rfl
theorem i74_7 : m_G 74 7 [.ref a0, v1, v2, v3, v4, v5] st μ = m_G 74 8 [.ref a0, v1, v2, v3, v4, v5] (.ref a0 :: st) μ := g_aload_n (i := 0) (by decide +kernel) rfl
theorem i74_8 : m_G 74 8 [v0, v1, .int x0, v3, v4, v5] st μ = m_G 74 9 [v0, v1, .int x0, v3, v4, v5] (.int x0 :: st) μ := g_iload_n (i := 2) (by decide +kernel) rfl
theorem i74_9 (ho : m_oc μ a0 = some 8) : m_G 74 9 L (.int x0 :: .ref a0 :: []) μ = b_c (m_D 67 [.ref a0, .int x0] μ) 74 12 L [] := g_virt (i := 130) (n := 1) (a := a0) (c := 8) (l := [(8, 67)]) (by decide +kernel) (by decide +kernel) rfl rfl (x_call_ok (ws := [1, 1]) (Nat.le_of_ble_eq_true rfl) rfl (by decide +kernel) rfl (by decide +kernel) rfl rfl) ho
theorem i74_12 : m_G 74 12 [v0, v1, v2, v3, v4, v5] (.ref a0 :: st) μ = m_G 74 14 [v0, v1, v2, v3, v4, .ref a0] st μ := g_astore (i := 5) (by decide +kernel) (Nat.le_of_ble_eq_true rfl) rfl
theorem i74_12N : m_G 74 12 [v0, v1, v2, v3, v4, v5] (.null :: st) μ = m_G 74 14 [v0, v1, v2, v3, v4, .null] st μ := g_astoreN (i := 5) (by decide +kernel) (Nat.le_of_ble_eq_true rfl) rfl
theorem i74_14 : m_G 74 14 [v0, v1, v2, v3, .ref a0, v5] st μ = m_G 74 16 [v0, v1, v2, v3, .ref a0, v5] (.ref a0 :: st) μ := g_aload (i := 4) (by decide +kernel) rfl
theorem i74_14N : m_G 74 14 [v0, v1, v2, v3, .null, v5] st μ = m_G 74 16 [v0, v1, v2, v3, .null, v5] (.null :: st) μ := g_aloadN (i := 4) (by decide +kernel) rfl
theorem i74_16 : m_G 74 16 L (.ref a0 :: st) μ = m_G 74 19 L st μ := g_ifnull (off := 17) (by decide +kernel)
theorem i74_16N : m_G 74 16 L (.null :: st) μ = m_G 74 33 L st μ := g_ifnullN (off := 17) (by decide +kernel) (by decide)
theorem i74_19 : m_G 74 19 [v0, v1, v2, v3, v4, .ref a0] st μ = m_G 74 21 [v0, v1, v2, v3, v4, .ref a0] (.ref a0 :: st) μ := g_aload (i := 5) (by decide +kernel) rfl
theorem i74_19N : m_G 74 19 [v0, v1, v2, v3, v4, .null] st μ = m_G 74 21 [v0, v1, v2, v3, v4, .null] (.null :: st) μ := g_aloadN (i := 5) (by decide +kernel) rfl
theorem i74_21 : m_G 74 21 L (.ref a0 :: st) μ = m_G 74 24 L st μ := g_ifnull (off := 12) (by decide +kernel)
theorem i74_21N : m_G 74 21 L (.null :: st) μ = m_G 74 33 L st μ := g_ifnullN (off := 12) (by decide +kernel) (by decide)
theorem i74_24 : m_G 74 24 [v0, v1, v2, v3, v4, .ref a0] st μ = m_G 74 26 [v0, v1, v2, v3, v4, .ref a0] (.ref a0 :: st) μ := g_aload (i := 5) (by decide +kernel) rfl
theorem i74_24N : m_G 74 24 [v0, v1, v2, v3, v4, .null] st μ = m_G 74 26 [v0, v1, v2, v3, v4, .null] (.null :: st) μ := g_aloadN (i := 5) (by decide +kernel) rfl
theorem i74_26 : m_G 74 26 [v0, v1, v2, .int x0, v4, v5] st μ = m_G 74 27 [v0, v1, v2, .int x0, v4, v5] (.int x0 :: st) μ := g_iload_n (i := 3) (by decide +kernel) rfl
theorem i74_27 (ho : m_oc μ a0 = some 3) : m_G 74 27 L (.int x0 :: .ref a0 :: []) μ = b_c (m_D 17 [.ref a0, .int x0] μ) 74 30 L [] := g_virt (i := 134) (n := 1) (a := a0) (c := 3) (l := [(3, 17)]) (by decide +kernel) (by decide +kernel) rfl rfl (x_call_ok (ws := [1, 1]) (Nat.le_of_ble_eq_true rfl) rfl (by decide +kernel) rfl (by decide +kernel) rfl rfl) ho
theorem i74_30 : m_G 74 30 L (.int x0 :: st) μ = if x0 = 0 then m_G 74 33 L st μ else m_G 74 36 L st μ := g_ifne (off := 6) (by decide +kernel) (by decide)
theorem i74_33 : m_G 74 33 L st μ = m_G 74 35 L (.int (-101) :: st) μ := g_bipush (n := -101) (by decide +kernel) (by decide)
theorem i74_35 : m_G 74 35 L [.int x0] μ = some (some (.int x0), μ) := g_ireti (by decide +kernel) (by decide)
theorem i74_36 : m_G 74 36 [v0, v1, v2, v3, .ref a0, v5] st μ = m_G 74 38 [v0, v1, v2, v3, .ref a0, v5] (.ref a0 :: st) μ := g_aload (i := 4) (by decide +kernel) rfl
theorem i74_36N : m_G 74 36 [v0, v1, v2, v3, .null, v5] st μ = m_G 74 38 [v0, v1, v2, v3, .null, v5] (.null :: st) μ := g_aloadN (i := 4) (by decide +kernel) rfl
theorem i74_38 : m_G 74 38 [v0, v1, v2, v3, v4, .ref a0] st μ = m_G 74 40 [v0, v1, v2, v3, v4, .ref a0] (.ref a0 :: st) μ := g_aload (i := 5) (by decide +kernel) rfl
theorem i74_38N : m_G 74 38 [v0, v1, v2, v3, v4, .null] st μ = m_G 74 40 [v0, v1, v2, v3, v4, .null] (.null :: st) μ := g_aloadN (i := 5) (by decide +kernel) rfl
theorem i74_40 : m_G 74 40 L st μ = m_G 74 41 L (.int 1 :: st) μ := g_iconst (n := 1) (by decide +kernel) (by decide)
theorem i74_41 : m_G 74 41 [v0, v1, v2, .int x0, v4, v5] st μ = m_G 74 42 [v0, v1, v2, .int x0, v4, v5] (.int x0 :: st) μ := g_iload_n (i := 3) (by decide +kernel) rfl
theorem i74_42 : m_G 74 42 L (.int x1 :: .int x0 :: st) μ = m_G 74 43 L (.int (x0 <<< (x1 &&& 31)) :: st) μ := g_ishl (by decide +kernel)
theorem i74_43 (ho : m_oc μ a0 = some 6) : m_G 74 43 L (.int x1 :: .ref a1 :: .ref a0 :: []) μ = b_c (m_D 49 [.ref a0, .ref a1, .int x1] μ) 74 46 L [] := g_virt (i := 158) (n := 2) (a := a0) (c := 6) (l := [(6, 49)]) (by decide +kernel) (by decide +kernel) rfl rfl (x_call_ok (ws := [1, 1, 1]) (Nat.le_of_ble_eq_true rfl) rfl (by decide +kernel) rfl (by decide +kernel) rfl rfl) ho
theorem i74_46 : m_G 74 46 L [.int x0] μ = some (some (.int x0), μ) := g_ireti (by decide +kernel) (by decide)
theorem D74 : m_D 74 [.ref a0, .int x0, .int x1, .int x2] μ = m_G 74 0 [.ref a0, .int x0, .int x1, .int x2, m_d, m_d] [] μ := d_def (by decide) rfl
theorem i75_0 : m_G 75 0 [.ref a0, v1, v2, v3, v4, v5] st μ = m_G 75 1 [.ref a0, v1, v2, v3, v4, v5] (.ref a0 :: st) μ := g_aload_n (i := 0) (by decide +kernel) rfl
theorem i75_1 : m_G 75 1 [v0, .int x0, v2, v3, v4, v5] st μ = m_G 75 2 [v0, .int x0, v2, v3, v4, v5] (.int x0 :: st) μ := g_iload_n (i := 1) (by decide +kernel) rfl
theorem i75_2 (ho : m_oc μ a0 = some 8) : m_G 75 2 L (.int x0 :: .ref a0 :: []) μ = b_c (m_D 67 [.ref a0, .int x0] μ) 75 5 L [] := g_virt (i := 130) (n := 1) (a := a0) (c := 8) (l := [(8, 67)]) (by decide +kernel) (by decide +kernel) rfl rfl (x_call_ok (ws := [1, 1]) (Nat.le_of_ble_eq_true rfl) rfl (by decide +kernel) rfl (by decide +kernel) rfl rfl) ho
theorem i75_5 : m_G 75 5 [v0, v1, v2, v3, v4, v5] (.ref a0 :: st) μ = m_G 75 7 [v0, v1, v2, v3, .ref a0, v5] st μ := g_astore (i := 4) (by decide +kernel) (Nat.le_of_ble_eq_true rfl) rfl
theorem i75_5N : m_G 75 5 [v0, v1, v2, v3, v4, v5] (.null :: st) μ = m_G 75 7 [v0, v1, v2, v3, .null, v5] st μ := g_astoreN (i := 4) (by decide +kernel) (Nat.le_of_ble_eq_true rfl) rfl
theorem i75_7 : m_G 75 7 [v0, v1, v2, v3, .ref a0, v5] st μ = m_G 75 9 [v0, v1, v2, v3, .ref a0, v5] (.ref a0 :: st) μ := g_aload (i := 4) (by decide +kernel) rfl
theorem i75_7N : m_G 75 7 [v0, v1, v2, v3, .null, v5] st μ = m_G 75 9 [v0, v1, v2, v3, .null, v5] (.null :: st) μ := g_aloadN (i := 4) (by decide +kernel) rfl
theorem i75_9 : m_G 75 9 L (.ref a0 :: st) μ = m_G 75 12 L st μ := g_ifnull (off := 12) (by decide +kernel)
theorem i75_9N : m_G 75 9 L (.null :: st) μ = m_G 75 21 L st μ := g_ifnullN (off := 12) (by decide +kernel) (by decide)
theorem i75_12 : m_G 75 12 [v0, v1, v2, v3, .ref a0, v5] st μ = m_G 75 14 [v0, v1, v2, v3, .ref a0, v5] (.ref a0 :: st) μ := g_aload (i := 4) (by decide +kernel) rfl
theorem i75_12N : m_G 75 12 [v0, v1, v2, v3, .null, v5] st μ = m_G 75 14 [v0, v1, v2, v3, .null, v5] (.null :: st) μ := g_aloadN (i := 4) (by decide +kernel) rfl
theorem i75_14 : m_G 75 14 [v0, v1, .int x0, v3, v4, v5] st μ = m_G 75 15 [v0, v1, .int x0, v3, v4, v5] (.int x0 :: st) μ := g_iload_n (i := 2) (by decide +kernel) rfl
theorem i75_15 (ho : m_oc μ a0 = some 3) : m_G 75 15 L (.int x0 :: .ref a0 :: []) μ = b_c (m_D 17 [.ref a0, .int x0] μ) 75 18 L [] := g_virt (i := 134) (n := 1) (a := a0) (c := 3) (l := [(3, 17)]) (by decide +kernel) (by decide +kernel) rfl rfl (x_call_ok (ws := [1, 1]) (Nat.le_of_ble_eq_true rfl) rfl (by decide +kernel) rfl (by decide +kernel) rfl rfl) ho
theorem i75_18 : m_G 75 18 L (.int x0 :: st) μ = if x0 = 0 then m_G 75 21 L st μ else m_G 75 24 L st μ := g_ifne (off := 6) (by decide +kernel) (by decide)
theorem i75_21 : m_G 75 21 L st μ = m_G 75 23 L (.int (-101) :: st) μ := g_bipush (n := -101) (by decide +kernel) (by decide)
theorem i75_23 : m_G 75 23 L [.int x0] μ = some (some (.int x0), μ) := g_ireti (by decide +kernel) (by decide)
theorem i75_24 : m_G 75 24 [v0, v1, v2, .int x0, v4, v5] st μ = m_G 75 25 [v0, v1, v2, .int x0, v4, v5] (.int x0 :: st) μ := g_iload_n (i := 3) (by decide +kernel) rfl
theorem i75_25 : m_G 75 25 L (.int x0 :: st) μ = if x0 < 0 then m_G 75 33 L st μ else m_G 75 28 L st μ := g_iflt (off := 8) (by decide +kernel) (by decide)
theorem i75_28 : m_G 75 28 [v0, v1, v2, .int x0, v4, v5] st μ = m_G 75 29 [v0, v1, v2, .int x0, v4, v5] (.int x0 :: st) μ := g_iload_n (i := 3) (by decide +kernel) rfl
theorem i75_29 : m_G 75 29 L st μ = m_G 75 30 L (.int 2 :: st) μ := g_iconst (n := 2) (by decide +kernel) (by decide)
theorem i75_30 : m_G 75 30 L (.int x1 :: .int x0 :: st) μ = if x1 < x0 then m_G 75 33 L st μ else m_G 75 36 L st μ := g_cmple (off := 6) (by decide +kernel) (by decide)
theorem i75_33 : m_G 75 33 L st μ = m_G 75 35 L (.int (-102) :: st) μ := g_bipush (n := -102) (by decide +kernel) (by decide)
theorem i75_35 : m_G 75 35 L [.int x0] μ = some (some (.int x0), μ) := g_ireti (by decide +kernel) (by decide)
theorem i75_36 : m_G 75 36 [v0, v1, v2, v3, .ref a0, v5] st μ = m_G 75 38 [v0, v1, v2, v3, .ref a0, v5] (.ref a0 :: st) μ := g_aload (i := 4) (by decide +kernel) rfl
theorem i75_36N : m_G 75 36 [v0, v1, v2, v3, .null, v5] st μ = m_G 75 38 [v0, v1, v2, v3, .null, v5] (.null :: st) μ := g_aloadN (i := 4) (by decide +kernel) rfl
theorem i75_38 : m_G 75 38 [v0, v1, .int x0, v3, v4, v5] st μ = m_G 75 39 [v0, v1, .int x0, v3, v4, v5] (.int x0 :: st) μ := g_iload_n (i := 2) (by decide +kernel) rfl
theorem i75_39 (ho : m_oc μ a0 = some 3) : m_G 75 39 L (.int x0 :: .ref a0 :: []) μ = b_c (m_D 18 [.ref a0, .int x0] μ) 75 42 L [] := g_virt (i := 166) (n := 1) (a := a0) (c := 3) (l := [(3, 18)]) (by decide +kernel) (by decide +kernel) rfl rfl (x_call_ok (ws := [1, 1]) (Nat.le_of_ble_eq_true rfl) rfl (by decide +kernel) rfl (by decide +kernel) rfl rfl) ho
theorem i75_42 : m_G 75 42 [v0, v1, v2, v3, v4, v5] (.int x0 :: st) μ = m_G 75 44 [v0, v1, v2, v3, v4, .int x0] st μ := g_istore (i := 5) (by decide +kernel) (Nat.le_of_ble_eq_true rfl) rfl
theorem i75_44 : m_G 75 44 [v0, v1, v2, v3, .ref a0, v5] st μ = m_G 75 46 [v0, v1, v2, v3, .ref a0, v5] (.ref a0 :: st) μ := g_aload (i := 4) (by decide +kernel) rfl
theorem i75_44N : m_G 75 44 [v0, v1, v2, v3, .null, v5] st μ = m_G 75 46 [v0, v1, v2, v3, .null, v5] (.null :: st) μ := g_aloadN (i := 4) (by decide +kernel) rfl
theorem i75_46 : m_G 75 46 [v0, v1, .int x0, v3, v4, v5] st μ = m_G 75 47 [v0, v1, .int x0, v3, v4, v5] (.int x0 :: st) μ := g_iload_n (i := 2) (by decide +kernel) rfl
theorem i75_47 : m_G 75 47 [v0, v1, v2, .int x0, v4, v5] st μ = m_G 75 48 [v0, v1, v2, .int x0, v4, v5] (.int x0 :: st) μ := g_iload_n (i := 3) (by decide +kernel) rfl
theorem i75_48 (ho : m_oc μ a0 = some 3) : m_G 75 48 L (.int x1 :: .int x0 :: .ref a0 :: []) μ = b_c (m_D 19 [.ref a0, .int x0, .int x1] μ) 75 51 L [] := g_virt (i := 169) (n := 2) (a := a0) (c := 3) (l := [(3, 19)]) (by decide +kernel) (by decide +kernel) rfl rfl (x_call_ok (ws := [1, 1, 1]) (Nat.le_of_ble_eq_true rfl) rfl (by decide +kernel) rfl (by decide +kernel) rfl rfl) ho
theorem i75_51 : m_G 75 51 [.ref a0, v1, v2, v3, v4, v5] st μ = m_G 75 52 [.ref a0, v1, v2, v3, v4, v5] (.ref a0 :: st) μ := g_aload_n (i := 0) (by decide +kernel) rfl
theorem i75_52 : m_G 75 52 L st μ = m_G 75 53 L (.int 0 :: st) μ := g_iconst (n := 0) (by decide +kernel) (by decide)
theorem i75_53 : m_G 75 53 L (w0 :: .ref a0 :: st) μ = b_m (m_pf μ a0 8 11 .boolean w0) 75 56 L st := g_putf (i := 107) (by decide +kernel) (by decide +kernel) (Or.inl (by decide)) (by decide)
theorem i75_56 : m_G 75 56 [v0, v1, v2, v3, v4, .int x0] st μ = m_G 75 58 [v0, v1, v2, v3, v4, .int x0] (.int x0 :: st) μ := g_iload (i := 5) (by decide +kernel) rfl
theorem i75_58 : m_G 75 58 L [.int x0] μ = some (some (.int x0), μ) := g_ireti (by decide +kernel) (by decide)
theorem D75 : m_D 75 [.ref a0, .int x0, .int x1, .int x2] μ = m_G 75 0 [.ref a0, .int x0, .int x1, .int x2, m_d, m_d] [] μ := d_def (by decide) rfl
theorem i76_0 : m_G 76 0 [.ref a0, v1, v2, v3, v4] st μ = m_G 76 1 [.ref a0, v1, v2, v3, v4] (.ref a0 :: st) μ := g_aload_n (i := 0) (by decide +kernel) rfl
theorem i76_1 : m_G 76 1 [v0, .int x0, v2, v3, v4] st μ = m_G 76 2 [v0, .int x0, v2, v3, v4] (.int x0 :: st) μ := g_iload_n (i := 1) (by decide +kernel) rfl
theorem i76_2 (ho : m_oc μ a0 = some 8) : m_G 76 2 L (.int x0 :: .ref a0 :: []) μ = b_c (m_D 67 [.ref a0, .int x0] μ) 76 5 L [] := g_virt (i := 130) (n := 1) (a := a0) (c := 8) (l := [(8, 67)]) (by decide +kernel) (by decide +kernel) rfl rfl (x_call_ok (ws := [1, 1]) (Nat.le_of_ble_eq_true rfl) rfl (by decide +kernel) rfl (by decide +kernel) rfl rfl) ho
theorem i76_5 : m_G 76 5 [v0, v1, v2, v3, v4] (.ref a0 :: st) μ = m_G 76 6 [v0, v1, v2, .ref a0, v4] st μ := g_astore_n (i := 3) (by decide +kernel) (Nat.le_of_ble_eq_true rfl) rfl
theorem i76_5N : m_G 76 5 [v0, v1, v2, v3, v4] (.null :: st) μ = m_G 76 6 [v0, v1, v2, .null, v4] st μ := g_astore_nN (i := 3) (by decide +kernel) (Nat.le_of_ble_eq_true rfl) rfl
theorem i76_6 : m_G 76 6 [v0, v1, v2, .ref a0, v4] st μ = m_G 76 7 [v0, v1, v2, .ref a0, v4] (.ref a0 :: st) μ := g_aload_n (i := 3) (by decide +kernel) rfl
theorem i76_6N : m_G 76 6 [v0, v1, v2, .null, v4] st μ = m_G 76 7 [v0, v1, v2, .null, v4] (.null :: st) μ := g_aload_nN (i := 3) (by decide +kernel) rfl
theorem i76_7 : m_G 76 7 L (.ref a0 :: st) μ = m_G 76 13 L st μ := g_ifnonnull (off := 6) (by decide +kernel) (by decide)
theorem i76_7N : m_G 76 7 L (.null :: st) μ = m_G 76 10 L st μ := g_ifnonnullN (off := 6) (by decide +kernel)
theorem i76_10 : m_G 76 10 L st μ = m_G 76 12 L (.int (-101) :: st) μ := g_bipush (n := -101) (by decide +kernel) (by decide)
theorem i76_12 : m_G 76 12 L [.int x0] μ = some (some (.int x0), μ) := g_ireti (by decide +kernel) (by decide)
theorem i76_13 : m_G 76 13 [v0, v1, v2, .ref a0, v4] st μ = m_G 76 14 [v0, v1, v2, .ref a0, v4] (.ref a0 :: st) μ := g_aload_n (i := 3) (by decide +kernel) rfl
theorem i76_13N : m_G 76 13 [v0, v1, v2, .null, v4] st μ = m_G 76 14 [v0, v1, v2, .null, v4] (.null :: st) μ := g_aload_nN (i := 3) (by decide +kernel) rfl
theorem i76_14 : m_G 76 14 L (.ref a0 :: st) μ = b_v (m_gf μ a0 3 13) 76 17 L st μ := g_getf (i := 173) (by decide +kernel) (by decide +kernel)
theorem i76_17 : m_G 76 17 L (.int x0 :: st) μ = if x0 = 0 then m_G 76 24 L st μ else m_G 76 20 L st μ := g_ifeq (off := 7) (by decide +kernel) (by decide)
theorem i76_20 : m_G 76 20 L st μ = m_G 76 21 L (.int 1 :: st) μ := g_iconst (n := 1) (by decide +kernel) (by decide)
theorem i76_21 : m_G 76 21 L st μ = m_G 76 25 L st μ := g_goto (off := 4) (by decide +kernel) (by decide)
theorem i76_24 : m_G 76 24 L st μ = m_G 76 25 L (.int 0 :: st) μ := g_iconst (n := 0) (by decide +kernel) (by decide)
theorem i76_25 : m_G 76 25 [v0, v1, v2, v3, v4] (.int x0 :: st) μ = m_G 76 27 [v0, v1, v2, v3, .int x0] st μ := g_istore (i := 4) (by decide +kernel) (Nat.le_of_ble_eq_true rfl) rfl
theorem i76_27 : m_G 76 27 [v0, v1, v2, .ref a0, v4] st μ = m_G 76 28 [v0, v1, v2, .ref a0, v4] (.ref a0 :: st) μ := g_aload_n (i := 3) (by decide +kernel) rfl
theorem i76_27N : m_G 76 27 [v0, v1, v2, .null, v4] st μ = m_G 76 28 [v0, v1, v2, .null, v4] (.null :: st) μ := g_aload_nN (i := 3) (by decide +kernel) rfl
theorem i76_28 : m_G 76 28 [v0, v1, .int x0, v3, v4] st μ = m_G 76 29 [v0, v1, .int x0, v3, v4] (.int x0 :: st) μ := g_iload_n (i := 2) (by decide +kernel) rfl
theorem i76_29 : m_G 76 29 L (w0 :: .ref a0 :: st) μ = b_m (m_pf μ a0 3 13 .boolean w0) 76 32 L st := g_putf (i := 173) (by decide +kernel) (by decide +kernel) (Or.inl (by decide)) (by decide)
theorem i76_32 : m_G 76 32 [.ref a0, v1, v2, v3, v4] st μ = m_G 76 33 [.ref a0, v1, v2, v3, v4] (.ref a0 :: st) μ := g_aload_n (i := 0) (by decide +kernel) rfl
theorem i76_33 : m_G 76 33 L st μ = m_G 76 34 L (.int 0 :: st) μ := g_iconst (n := 0) (by decide +kernel) (by decide)
theorem i76_34 : m_G 76 34 L (w0 :: .ref a0 :: st) μ = b_m (m_pf μ a0 8 11 .boolean w0) 76 37 L st := g_putf (i := 107) (by decide +kernel) (by decide +kernel) (Or.inl (by decide)) (by decide)
theorem i76_37 : m_G 76 37 [v0, v1, v2, v3, .int x0] st μ = m_G 76 39 [v0, v1, v2, v3, .int x0] (.int x0 :: st) μ := g_iload (i := 4) (by decide +kernel) rfl
theorem i76_39 : m_G 76 39 L [.int x0] μ = some (some (.int x0), μ) := g_ireti (by decide +kernel) (by decide)
theorem D76 : m_D 76 [.ref a0, .int x0, .int x1] μ = m_G 76 0 [.ref a0, .int x0, .int x1, m_d, m_d] [] μ := d_def (by decide) rfl
theorem i77_0 : m_G 77 0 [v0, .int x0] st μ = m_G 77 1 [v0, .int x0] (.int x0 :: st) μ := g_iload_n (i := 1) (by decide +kernel) rfl
theorem i77_1 : m_G 77 1 L (.int x0 :: st) μ = if x0 < 0 then m_G 77 9 L st μ else m_G 77 4 L st μ := g_iflt (off := 8) (by decide +kernel) (by decide)
theorem i77_4 : m_G 77 4 [v0, .int x0] st μ = m_G 77 5 [v0, .int x0] (.int x0 :: st) μ := g_iload_n (i := 1) (by decide +kernel) rfl
theorem i77_5 : m_G 77 5 L st μ = m_G 77 6 L (.int 3 :: st) μ := g_iconst (n := 3) (by decide +kernel) (by decide)
theorem i77_6 : m_G 77 6 L (.int x1 :: .int x0 :: st) μ = if x1 < x0 then m_G 77 9 L st μ else m_G 77 12 L st μ := g_cmple (off := 6) (by decide +kernel) (by decide)
theorem i77_9 : m_G 77 9 L st μ = m_G 77 11 L (.int (-102) :: st) μ := g_bipush (n := -102) (by decide +kernel) (by decide)
theorem i77_11 : m_G 77 11 L [.int x0] μ = some (some (.int x0), μ) := g_ireti (by decide +kernel) (by decide)
theorem i77_12 : m_G 77 12 [.ref a0, v1] st μ = m_G 77 13 [.ref a0, v1] (.ref a0 :: st) μ := g_aload_n (i := 0) (by decide +kernel) rfl
theorem i77_13 : m_G 77 13 L (.ref a0 :: st) μ = b_v (m_gf μ a0 8 3) 77 16 L st μ := g_getf (i := 101) (by decide +kernel) (by decide +kernel)
theorem i77_16 : m_G 77 16 L (.int x0 :: st) μ = if x0 = 0 then m_G 77 19 L st μ else m_G 77 22 L st μ := g_ifne (off := 6) (by decide +kernel) (by decide)
theorem i77_19 : m_G 77 19 L st μ = m_G 77 21 L (.int (-103) :: st) μ := g_bipush (n := -103) (by decide +kernel) (by decide)
theorem i77_21 : m_G 77 21 L [.int x0] μ = some (some (.int x0), μ) := g_ireti (by decide +kernel) (by decide)
theorem i77_22 : m_G 77 22 [.ref a0, v1] st μ = m_G 77 23 [.ref a0, v1] (.ref a0 :: st) μ := g_aload_n (i := 0) (by decide +kernel) rfl
theorem i77_23 (ho : m_oc μ a0 = some 8) : m_G 77 23 L (.ref a0 :: []) μ = b_c (m_D 78 [.ref a0] μ) 77 26 L [] := g_virt (i := 176) (n := 0) (a := a0) (c := 8) (l := [(8, 78)]) (by decide +kernel) (by decide +kernel) rfl rfl (x_call_ok (ws := [1]) (Nat.le_of_ble_eq_true rfl) rfl (by decide +kernel) rfl (by decide +kernel) rfl rfl) ho
theorem i77_26 : m_G 77 26 [v0, .int x0] st μ = m_G 77 27 [v0, .int x0] (.int x0 :: st) μ := g_iload_n (i := 1) (by decide +kernel) rfl
theorem i77_27 : m_G 77 27 L (.int x0 :: st) μ = if x0 = 0 then m_G 77 30 L st μ else m_G 77 38 L st μ := g_ifne (off := 11) (by decide +kernel) (by decide)
theorem i77_30 : m_G 77 30 [.ref a0, v1] st μ = m_G 77 31 [.ref a0, v1] (.ref a0 :: st) μ := g_aload_n (i := 0) (by decide +kernel) rfl
theorem i77_31 : m_G 77 31 L (.ref a0 :: st) μ = b_v (m_gf μ a0 8 10) 77 34 L st μ := g_getf (i := 48) (by decide +kernel) (by decide +kernel)
theorem i77_34 : m_G 77 34 L (.ref a0 :: st) μ = b_v (m_gf μ a0 0 0) 77 37 L st μ := g_getf (i := 179) (by decide +kernel) (by decide +kernel)
theorem i77_37 : m_G 77 37 L [.int x0] μ = some (some (.int x0), μ) := g_ireti (by decide +kernel) (by decide)
theorem i77_38 : m_G 77 38 [.ref a0, v1] st μ = m_G 77 39 [.ref a0, v1] (.ref a0 :: st) μ := g_aload_n (i := 0) (by decide +kernel) rfl
theorem i77_39 : m_G 77 39 L (.ref a0 :: st) μ = b_v (m_gf μ a0 8 10) 77 42 L st μ := g_getf (i := 48) (by decide +kernel) (by decide +kernel)
theorem i77_42 : m_G 77 42 L (.ref a0 :: st) μ = b_v (m_gf μ a0 0 0) 77 45 L st μ := g_getf (i := 179) (by decide +kernel) (by decide +kernel)
theorem i77_45 : m_G 77 45 L (.int x0 :: st) μ = if x0 = 0 then m_G 77 48 L st μ else m_G 77 50 L st μ := g_ifne (off := 5) (by decide +kernel) (by decide)
theorem i77_48 : m_G 77 48 L st μ = m_G 77 49 L (.int (-1) :: st) μ := g_iconst (n := -1) (by decide +kernel) (by decide)
theorem i77_49 : m_G 77 49 L [.int x0] μ = some (some (.int x0), μ) := g_ireti (by decide +kernel) (by decide)
theorem i77_50 : m_G 77 50 [v0, .int x0] st μ = m_G 77 51 [v0, .int x0] (.int x0 :: st) μ := g_iload_n (i := 1) (by decide +kernel) rfl
theorem i77_51_1 : m_G 77 51 L (.int 1 :: st) μ = m_G 77 76 L st μ := g_look (dd := 47) (ps := #[(1, 25), (2, 36)]) (len := 25) (by decide +kernel) (by decide) (by decide)
theorem i77_51_2 : m_G 77 51 L (.int 2 :: st) μ = m_G 77 87 L st μ := g_look (dd := 47) (ps := #[(1, 25), (2, 36)]) (len := 25) (by decide +kernel) (by decide) (by decide)
theorem i77_51_d (h : Op.lookupswitch.offset [(1, 25), (2, 36)] 47 x0.toInt = 47) : m_G 77 51 L (.int x0 :: st) μ = m_G 77 98 L st μ := g_look (dd := 47) (ps := #[(1, 25), (2, 36)]) (len := 25) (by decide +kernel) (by decide) (by rw [show (#[(1, 25), (2, 36)] : Array (Int × Int)).toList = [(1, 25), (2, 36)] from rfl, h]; decide)
theorem i77_76 : m_G 77 76 [.ref a0, v1] st μ = m_G 77 77 [.ref a0, v1] (.ref a0 :: st) μ := g_aload_n (i := 0) (by decide +kernel) rfl
theorem i77_77 : m_G 77 77 L (.ref a0 :: st) μ = b_v (m_gf μ a0 8 10) 77 80 L st μ := g_getf (i := 48) (by decide +kernel) (by decide +kernel)
theorem i77_80 : m_G 77 80 L (.ref a0 :: st) μ = b_v (m_gf μ a0 0 1) 77 83 L st μ := g_getf (i := 182) (by decide +kernel) (by decide +kernel)
theorem i77_83 : m_G 77 83 L (.int x0 :: []) μ = b_c (m_D 99 [.int x0] μ) 77 86 L [] := g_stat (i := 185) (n := 1) (by decide +kernel) (by decide +kernel) (by decide) (x_call_ok (ws := [1]) (Nat.le_of_ble_eq_true rfl) rfl (by decide +kernel) rfl (by decide +kernel) rfl rfl)
theorem i77_86 : m_G 77 86 L [.int x0] μ = some (some (.int x0), μ) := g_ireti (by decide +kernel) (by decide)
theorem i77_87 : m_G 77 87 [.ref a0, v1] st μ = m_G 77 88 [.ref a0, v1] (.ref a0 :: st) μ := g_aload_n (i := 0) (by decide +kernel) rfl
theorem i77_88 : m_G 77 88 L (.ref a0 :: st) μ = b_v (m_gf μ a0 8 10) 77 91 L st μ := g_getf (i := 48) (by decide +kernel) (by decide +kernel)
theorem i77_91 : m_G 77 91 L (.ref a0 :: st) μ = b_v (m_gf μ a0 0 2) 77 94 L st μ := g_getf (i := 188) (by decide +kernel) (by decide +kernel)
theorem i77_94 : m_G 77 94 L (.int x0 :: []) μ = b_c (m_D 99 [.int x0] μ) 77 97 L [] := g_stat (i := 185) (n := 1) (by decide +kernel) (by decide +kernel) (by decide) (x_call_ok (ws := [1]) (Nat.le_of_ble_eq_true rfl) rfl (by decide +kernel) rfl (by decide +kernel) rfl rfl)
theorem i77_97 : m_G 77 97 L [.int x0] μ = some (some (.int x0), μ) := g_ireti (by decide +kernel) (by decide)
theorem i77_98 : m_G 77 98 [.ref a0, v1] st μ = m_G 77 99 [.ref a0, v1] (.ref a0 :: st) μ := g_aload_n (i := 0) (by decide +kernel) rfl
theorem i77_99 : m_G 77 99 L (.ref a0 :: st) μ = b_v (m_gf μ a0 8 10) 77 102 L st μ := g_getf (i := 48) (by decide +kernel) (by decide +kernel)
theorem i77_102 : m_G 77 102 L (.ref a0 :: st) μ = b_v (m_gf μ a0 0 3) 77 105 L st μ := g_getf (i := 191) (by decide +kernel) (by decide +kernel)
theorem i77_105 : m_G 77 105 L [.int x0] μ = some (some (.int x0), μ) := g_ireti (by decide +kernel) (by decide)
theorem D77 : m_D 77 [.ref a0, .int x0] μ = m_G 77 0 [.ref a0, .int x0] [] μ := d_def (by decide) rfl
theorem i78_0 : m_G 78 0 [.ref a0] st μ = m_G 78 1 [.ref a0] (.ref a0 :: st) μ := g_aload_n (i := 0) (by decide +kernel) rfl
theorem i78_1 : m_G 78 1 L (.ref a0 :: st) μ = b_v (m_gf μ a0 8 11) 78 4 L st μ := g_getf (i := 107) (by decide +kernel) (by decide +kernel)
theorem i78_4 : m_G 78 4 L (.int x0 :: st) μ = if x0 = 0 then m_G 78 7 L st μ else m_G 78 27 L st μ := g_ifne (off := 23) (by decide +kernel) (by decide)
theorem i78_7 : m_G 78 7 [.ref a0] st μ = m_G 78 8 [.ref a0] (.ref a0 :: st) μ := g_aload_n (i := 0) (by decide +kernel) rfl
theorem i78_8 : m_G 78 8 L (.ref a0 :: st) μ = b_v (m_gf μ a0 8 10) 78 11 L st μ := g_getf (i := 48) (by decide +kernel) (by decide +kernel)
theorem i78_11 : m_G 78 11 [.ref a0] st μ = m_G 78 12 [.ref a0] (.ref a0 :: st) μ := g_aload_n (i := 0) (by decide +kernel) rfl
theorem i78_12 : m_G 78 12 L (.ref a0 :: st) μ = b_v (m_gf μ a0 8 2) 78 15 L st μ := g_getf (i := 15) (by decide +kernel) (by decide +kernel)
theorem i78_15 : m_G 78 15 [.ref a0] st μ = m_G 78 16 [.ref a0] (.ref a0 :: st) μ := g_aload_n (i := 0) (by decide +kernel) rfl
theorem i78_16 : m_G 78 16 L (.ref a0 :: st) μ = b_v (m_gf μ a0 8 3) 78 19 L st μ := g_getf (i := 101) (by decide +kernel) (by decide +kernel)
theorem i78_19 (ho : m_oc μ a0 = some 0) : m_G 78 19 L (.int x1 :: .ref a1 :: .ref a0 :: []) μ = b_c (m_D 1 [.ref a0, .ref a1, .int x1] μ) 78 22 L [] := g_virt (i := 194) (n := 2) (a := a0) (c := 0) (l := [(0, 1)]) (by decide +kernel) (by decide +kernel) rfl rfl (x_call_ok (ws := [1, 1, 1]) (Nat.le_of_ble_eq_true rfl) rfl (by decide +kernel) rfl (by decide +kernel) rfl rfl) ho
theorem i78_22 : m_G 78 22 [.ref a0] st μ = m_G 78 23 [.ref a0] (.ref a0 :: st) μ := g_aload_n (i := 0) (by decide +kernel) rfl
theorem i78_23 : m_G 78 23 L st μ = m_G 78 24 L (.int 1 :: st) μ := g_iconst (n := 1) (by decide +kernel) (by decide)
theorem i78_24 : m_G 78 24 L (w0 :: .ref a0 :: st) μ = b_m (m_pf μ a0 8 11 .boolean w0) 78 27 L st := g_putf (i := 107) (by decide +kernel) (by decide +kernel) (Or.inl (by decide)) (by decide)
theorem i78_27 : m_G 78 27 L [] μ = some (none, μ) := g_ret (by decide +kernel) (by decide)
theorem D78 : m_D 78 [.ref a0] μ = m_G 78 0 [.ref a0] [] μ := d_def (by decide) rfl
theorem i79_0 : m_G 79 0 [v0, .int x0, v2] st μ = m_G 79 1 [v0, .int x0, v2] (.int x0 :: st) μ := g_iload_n (i := 1) (by decide +kernel) rfl
theorem i79_1 : m_G 79 1 L (.int x0 :: st) μ = if x0 < 0 then m_G 79 18 L st μ else m_G 79 4 L st μ := g_iflt (off := 17) (by decide +kernel) (by decide)
theorem i79_4 : m_G 79 4 [v0, .int x0, v2] st μ = m_G 79 5 [v0, .int x0, v2] (.int x0 :: st) μ := g_iload_n (i := 1) (by decide +kernel) rfl
theorem i79_5 : m_G 79 5 L st μ = m_G 79 6 L (.int 1 :: st) μ := g_iconst (n := 1) (by decide +kernel) (by decide)
theorem i79_6 : m_G 79 6 L (.int x1 :: .int x0 :: st) μ = if x1 < x0 then m_G 79 18 L st μ else m_G 79 9 L st μ := g_cmpgt (off := 12) (by decide +kernel) (by decide)
theorem i79_9 : m_G 79 9 [v0, v1, .int x0] st μ = m_G 79 10 [v0, v1, .int x0] (.int x0 :: st) μ := g_iload_n (i := 2) (by decide +kernel) rfl
theorem i79_10 : m_G 79 10 L (.int x0 :: st) μ = if x0 < 0 then m_G 79 18 L st μ else m_G 79 13 L st μ := g_iflt (off := 8) (by decide +kernel) (by decide)
theorem i79_13 : m_G 79 13 [v0, v1, .int x0] st μ = m_G 79 14 [v0, v1, .int x0] (.int x0 :: st) μ := g_iload_n (i := 2) (by decide +kernel) rfl
theorem i79_14 : m_G 79 14 L st μ = m_G 79 15 L (.int 2 :: st) μ := g_iconst (n := 2) (by decide +kernel) (by decide)
theorem i79_15 : m_G 79 15 L (.int x1 :: .int x0 :: st) μ = if x1 < x0 then m_G 79 18 L st μ else m_G 79 21 L st μ := g_cmple (off := 6) (by decide +kernel) (by decide)
theorem i79_18 : m_G 79 18 L st μ = m_G 79 20 L (.int (-102) :: st) μ := g_bipush (n := -102) (by decide +kernel) (by decide)
theorem i79_20 : m_G 79 20 L [.int x0] μ = some (some (.int x0), μ) := g_ireti (by decide +kernel) (by decide)
theorem i79_21 : m_G 79 21 [.ref a0, v1, v2] st μ = m_G 79 22 [.ref a0, v1, v2] (.ref a0 :: st) μ := g_aload_n (i := 0) (by decide +kernel) rfl
theorem i79_22 : m_G 79 22 L (.ref a0 :: st) μ = b_v (m_gf μ a0 8 3) 79 25 L st μ := g_getf (i := 101) (by decide +kernel) (by decide +kernel)
theorem i79_25 : m_G 79 25 L (.int x0 :: st) μ = if x0 = 0 then m_G 79 28 L st μ else m_G 79 31 L st μ := g_ifne (off := 6) (by decide +kernel) (by decide)
theorem i79_28 : m_G 79 28 L st μ = m_G 79 30 L (.int (-103) :: st) μ := g_bipush (n := -103) (by decide +kernel) (by decide)
theorem i79_30 : m_G 79 30 L [.int x0] μ = some (some (.int x0), μ) := g_ireti (by decide +kernel) (by decide)
theorem i79_31 : m_G 79 31 [.ref a0, v1, v2] st μ = m_G 79 32 [.ref a0, v1, v2] (.ref a0 :: st) μ := g_aload_n (i := 0) (by decide +kernel) rfl
theorem i79_32 (ho : m_oc μ a0 = some 8) : m_G 79 32 L (.ref a0 :: []) μ = b_c (m_D 78 [.ref a0] μ) 79 35 L [] := g_virt (i := 176) (n := 0) (a := a0) (c := 8) (l := [(8, 78)]) (by decide +kernel) (by decide +kernel) rfl rfl (x_call_ok (ws := [1]) (Nat.le_of_ble_eq_true rfl) rfl (by decide +kernel) rfl (by decide +kernel) rfl rfl) ho
theorem i79_35 : m_G 79 35 [v0, .int x0, v2] st μ = m_G 79 36 [v0, .int x0, v2] (.int x0 :: st) μ := g_iload_n (i := 1) (by decide +kernel) rfl
theorem i79_36 : m_G 79 36 L (.int x0 :: st) μ = if x0 = 0 then m_G 79 39 L st μ else m_G 79 49 L st μ := g_ifne (off := 13) (by decide +kernel) (by decide)
theorem i79_39 : m_G 79 39 [.ref a0, v1, v2] st μ = m_G 79 40 [.ref a0, v1, v2] (.ref a0 :: st) μ := g_aload_n (i := 0) (by decide +kernel) rfl
theorem i79_40 : m_G 79 40 L (.ref a0 :: st) μ = b_v (m_gf μ a0 8 10) 79 43 L st μ := g_getf (i := 48) (by decide +kernel) (by decide +kernel)
theorem i79_43 : m_G 79 43 L (.ref a0 :: st) μ = b_v (m_gf μ a0 0 1) 79 46 L st μ := g_getf (i := 182) (by decide +kernel) (by decide +kernel)
theorem i79_46 : m_G 79 46 L st μ = m_G 79 56 L st μ := g_goto (off := 10) (by decide +kernel) (by decide)
theorem i79_49 : m_G 79 49 [.ref a0, v1, v2] st μ = m_G 79 50 [.ref a0, v1, v2] (.ref a0 :: st) μ := g_aload_n (i := 0) (by decide +kernel) rfl
theorem i79_50 : m_G 79 50 L (.ref a0 :: st) μ = b_v (m_gf μ a0 8 10) 79 53 L st μ := g_getf (i := 48) (by decide +kernel) (by decide +kernel)
theorem i79_53 : m_G 79 53 L (.ref a0 :: st) μ = b_v (m_gf μ a0 0 2) 79 56 L st μ := g_getf (i := 188) (by decide +kernel) (by decide +kernel)
theorem i79_56 : m_G 79 56 [v0, v1, .int x0] st μ = m_G 79 57 [v0, v1, .int x0] (.int x0 :: st) μ := g_iload_n (i := 2) (by decide +kernel) rfl
theorem i79_57 : m_G 79 57 L (.int x1 :: .int x0 :: []) μ = b_c (m_D 100 [.int x0, .int x1] μ) 79 60 L [] := g_stat (i := 198) (n := 2) (by decide +kernel) (by decide +kernel) (by decide) (x_call_ok (ws := [1, 1]) (Nat.le_of_ble_eq_true rfl) rfl (by decide +kernel) rfl (by decide +kernel) rfl rfl)
theorem i79_60 : m_G 79 60 L [.int x0] μ = some (some (.int x0), μ) := g_ireti (by decide +kernel) (by decide)
theorem D79 : m_D 79 [.ref a0, .int x0, .int x1] μ = m_G 79 0 [.ref a0, .int x0, .int x1] [] μ := d_def (by decide) rfl
theorem i80_0 : m_G 80 0 [.ref a0, v1, v2, v3] st μ = m_G 80 1 [.ref a0, v1, v2, v3] (.ref a0 :: st) μ := g_aload_n (i := 0) (by decide +kernel) rfl
theorem i80_1 : m_G 80 1 [v0, .int x0, v2, v3] st μ = m_G 80 2 [v0, .int x0, v2, v3] (.int x0 :: st) μ := g_iload_n (i := 1) (by decide +kernel) rfl
theorem i80_2 (ho : m_oc μ a0 = some 8) : m_G 80 2 L (.int x0 :: .ref a0 :: []) μ = b_c (m_D 67 [.ref a0, .int x0] μ) 80 5 L [] := g_virt (i := 130) (n := 1) (a := a0) (c := 8) (l := [(8, 67)]) (by decide +kernel) (by decide +kernel) rfl rfl (x_call_ok (ws := [1, 1]) (Nat.le_of_ble_eq_true rfl) rfl (by decide +kernel) rfl (by decide +kernel) rfl rfl) ho
theorem i80_5 : m_G 80 5 [v0, v1, v2, v3] (.ref a0 :: st) μ = m_G 80 6 [v0, v1, v2, .ref a0] st μ := g_astore_n (i := 3) (by decide +kernel) (Nat.le_of_ble_eq_true rfl) rfl
theorem i80_5N : m_G 80 5 [v0, v1, v2, v3] (.null :: st) μ = m_G 80 6 [v0, v1, v2, .null] st μ := g_astore_nN (i := 3) (by decide +kernel) (Nat.le_of_ble_eq_true rfl) rfl
theorem i80_6 : m_G 80 6 [v0, v1, v2, .ref a0] st μ = m_G 80 7 [v0, v1, v2, .ref a0] (.ref a0 :: st) μ := g_aload_n (i := 3) (by decide +kernel) rfl
theorem i80_6N : m_G 80 6 [v0, v1, v2, .null] st μ = m_G 80 7 [v0, v1, v2, .null] (.null :: st) μ := g_aload_nN (i := 3) (by decide +kernel) rfl
theorem i80_7 : m_G 80 7 L (.ref a0 :: st) μ = m_G 80 10 L st μ := g_ifnull (off := 11) (by decide +kernel)
theorem i80_7N : m_G 80 7 L (.null :: st) μ = m_G 80 18 L st μ := g_ifnullN (off := 11) (by decide +kernel) (by decide)
theorem i80_10 : m_G 80 10 [v0, v1, v2, .ref a0] st μ = m_G 80 11 [v0, v1, v2, .ref a0] (.ref a0 :: st) μ := g_aload_n (i := 3) (by decide +kernel) rfl
theorem i80_10N : m_G 80 10 [v0, v1, v2, .null] st μ = m_G 80 11 [v0, v1, v2, .null] (.null :: st) μ := g_aload_nN (i := 3) (by decide +kernel) rfl
theorem i80_11 : m_G 80 11 [v0, v1, .int x0, v3] st μ = m_G 80 12 [v0, v1, .int x0, v3] (.int x0 :: st) μ := g_iload_n (i := 2) (by decide +kernel) rfl
theorem i80_12 (ho : m_oc μ a0 = some 3) : m_G 80 12 L (.int x0 :: .ref a0 :: []) μ = b_c (m_D 17 [.ref a0, .int x0] μ) 80 15 L [] := g_virt (i := 134) (n := 1) (a := a0) (c := 3) (l := [(3, 17)]) (by decide +kernel) (by decide +kernel) rfl rfl (x_call_ok (ws := [1, 1]) (Nat.le_of_ble_eq_true rfl) rfl (by decide +kernel) rfl (by decide +kernel) rfl rfl) ho
theorem i80_15 : m_G 80 15 L (.int x0 :: st) μ = if x0 = 0 then m_G 80 18 L st μ else m_G 80 21 L st μ := g_ifne (off := 6) (by decide +kernel) (by decide)
theorem i80_18 : m_G 80 18 L st μ = m_G 80 20 L (.int (-101) :: st) μ := g_bipush (n := -101) (by decide +kernel) (by decide)
theorem i80_20 : m_G 80 20 L [.int x0] μ = some (some (.int x0), μ) := g_ireti (by decide +kernel) (by decide)
theorem i80_21 : m_G 80 21 [.ref a0, v1, v2, v3] st μ = m_G 80 22 [.ref a0, v1, v2, v3] (.ref a0 :: st) μ := g_aload_n (i := 0) (by decide +kernel) rfl
theorem i80_22 (ho : m_oc μ a0 = some 8) : m_G 80 22 L (.ref a0 :: []) μ = b_c (m_D 78 [.ref a0] μ) 80 25 L [] := g_virt (i := 176) (n := 0) (a := a0) (c := 8) (l := [(8, 78)]) (by decide +kernel) (by decide +kernel) rfl rfl (x_call_ok (ws := [1]) (Nat.le_of_ble_eq_true rfl) rfl (by decide +kernel) rfl (by decide +kernel) rfl rfl) ho
theorem i80_25 : m_G 80 25 [.ref a0, v1, v2, v3] st μ = m_G 80 26 [.ref a0, v1, v2, v3] (.ref a0 :: st) μ := g_aload_n (i := 0) (by decide +kernel) rfl
theorem i80_26 : m_G 80 26 L (.ref a0 :: st) μ = b_v (m_gf μ a0 8 10) 80 29 L st μ := g_getf (i := 48) (by decide +kernel) (by decide +kernel)
theorem i80_29 : m_G 80 29 L (.ref a0 :: st) μ = b_v (m_gf μ a0 0 5) 80 32 L st μ := g_getf (i := 201) (by decide +kernel) (by decide +kernel)
theorem i80_32 : m_G 80 32 [v0, .int x0, v2, v3] st μ = m_G 80 33 [v0, .int x0, v2, v3] (.int x0 :: st) μ := g_iload_n (i := 1) (by decide +kernel) rfl
theorem i80_33 : m_G 80 33 L st μ = m_G 80 35 L (.int 24 :: st) μ := g_bipush (n := 24) (by decide +kernel) (by decide)
theorem i80_35 : m_G 80 35 L (.int x1 :: .int x0 :: st) μ = m_G 80 36 L (.int (x0 * x1) :: st) μ := g_imul (by decide +kernel)
theorem i80_36 : m_G 80 36 [v0, v1, .int x0, v3] st μ = m_G 80 37 [v0, v1, .int x0, v3] (.int x0 :: st) μ := g_iload_n (i := 2) (by decide +kernel) rfl
theorem i80_37 : m_G 80 37 L (.int x1 :: .int x0 :: st) μ = m_G 80 38 L (.int (x0 + x1) :: st) μ := g_iadd (by decide +kernel)
theorem i80_38 : m_G 80 38 L (.int x0 :: .ref a0 :: st) μ = b_i (m_ga μ a0 x0) 80 39 L st μ := g_iald (by decide +kernel)
theorem i80_39 : m_G 80 39 L [.int x0] μ = some (some (.int x0), μ) := g_ireti (by decide +kernel) (by decide)
theorem D80 : m_D 80 [.ref a0, .int x0, .int x1] μ = m_G 80 0 [.ref a0, .int x0, .int x1, m_d] [] μ := d_def (by decide) rfl
theorem i81_0 : m_G 81 0 [v0, .int x0, v2] st μ = m_G 81 1 [v0, .int x0, v2] (.int x0 :: st) μ := g_iload_n (i := 1) (by decide +kernel) rfl
theorem i81_1 : m_G 81 1 L (.int x0 :: st) μ = if x0 < 0 then m_G 81 9 L st μ else m_G 81 4 L st μ := g_iflt (off := 8) (by decide +kernel) (by decide)
theorem i81_4 : m_G 81 4 [v0, .int x0, v2] st μ = m_G 81 5 [v0, .int x0, v2] (.int x0 :: st) μ := g_iload_n (i := 1) (by decide +kernel) rfl
theorem i81_5 : m_G 81 5 L st μ = m_G 81 6 L (.int 2 :: st) μ := g_iconst (n := 2) (by decide +kernel) (by decide)
theorem i81_6 : m_G 81 6 L (.int x1 :: .int x0 :: st) μ = if x1 < x0 then m_G 81 9 L st μ else m_G 81 12 L st μ := g_cmple (off := 6) (by decide +kernel) (by decide)
theorem i81_9 : m_G 81 9 L st μ = m_G 81 11 L (.int (-102) :: st) μ := g_bipush (n := -102) (by decide +kernel) (by decide)
theorem i81_11 : m_G 81 11 L [.int x0] μ = some (some (.int x0), μ) := g_ireti (by decide +kernel) (by decide)
theorem i81_12 : m_G 81 12 [.ref a0, v1, v2] st μ = m_G 81 13 [.ref a0, v1, v2] (.ref a0 :: st) μ := g_aload_n (i := 0) (by decide +kernel) rfl
theorem i81_13 (ho : m_oc μ a0 = some 8) : m_G 81 13 L (.ref a0 :: []) μ = b_c (m_D 78 [.ref a0] μ) 81 16 L [] := g_virt (i := 176) (n := 0) (a := a0) (c := 8) (l := [(8, 78)]) (by decide +kernel) (by decide +kernel) rfl rfl (x_call_ok (ws := [1]) (Nat.le_of_ble_eq_true rfl) rfl (by decide +kernel) rfl (by decide +kernel) rfl rfl) ho
theorem i81_16 : m_G 81 16 [.ref a0, v1, v2] st μ = m_G 81 17 [.ref a0, v1, v2] (.ref a0 :: st) μ := g_aload_n (i := 0) (by decide +kernel) rfl
theorem i81_17 : m_G 81 17 L (.ref a0 :: st) μ = b_v (m_gf μ a0 8 10) 81 20 L st μ := g_getf (i := 48) (by decide +kernel) (by decide +kernel)
theorem i81_20 : m_G 81 20 L (.ref a0 :: st) μ = b_v (m_gf μ a0 0 4) 81 23 L st μ := g_getf (i := 204) (by decide +kernel) (by decide +kernel)
theorem i81_23 : m_G 81 23 [v0, v1, v2] (.int x0 :: st) μ = m_G 81 24 [v0, v1, .int x0] st μ := g_istore_n (i := 2) (by decide +kernel) (Nat.le_of_ble_eq_true rfl) rfl
theorem i81_24 : m_G 81 24 [v0, v1, .int x0] st μ = m_G 81 25 [v0, v1, .int x0] (.int x0 :: st) μ := g_iload_n (i := 2) (by decide +kernel) rfl
theorem i81_25 : m_G 81 25 L st μ = m_G 81 26 L (.int (-1) :: st) μ := g_iconst (n := -1) (by decide +kernel) (by decide)
theorem i81_26 : m_G 81 26 L (.int x1 :: .int x0 :: st) μ = if x0 = x1 then m_G 81 29 L st μ else m_G 81 31 L st μ := g_cmpne (off := 5) (by decide +kernel) (by decide)
theorem i81_29 : m_G 81 29 L st μ = m_G 81 30 L (.int (-1) :: st) μ := g_iconst (n := -1) (by decide +kernel) (by decide)
theorem i81_30 : m_G 81 30 L [.int x0] μ = some (some (.int x0), μ) := g_ireti (by decide +kernel) (by decide)
theorem i81_31 : m_G 81 31 [v0, .int x0, v2] st μ = m_G 81 32 [v0, .int x0, v2] (.int x0 :: st) μ := g_iload_n (i := 1) (by decide +kernel) rfl
theorem i81_32_0 : m_G 81 32 L (.int 0 :: st) μ = m_G 81 60 L st μ := g_look (dd := 38) (ps := #[(0, 28), (1, 33)]) (len := 28) (by decide +kernel) (by decide) (by decide)
theorem i81_32_1 : m_G 81 32 L (.int 1 :: st) μ = m_G 81 65 L st μ := g_look (dd := 38) (ps := #[(0, 28), (1, 33)]) (len := 28) (by decide +kernel) (by decide) (by decide)
theorem i81_32_d (h : Op.lookupswitch.offset [(0, 28), (1, 33)] 38 x0.toInt = 38) : m_G 81 32 L (.int x0 :: st) μ = m_G 81 70 L st μ := g_look (dd := 38) (ps := #[(0, 28), (1, 33)]) (len := 28) (by decide +kernel) (by decide) (by rw [show (#[(0, 28), (1, 33)] : Array (Int × Int)).toList = [(0, 28), (1, 33)] from rfl, h]; decide)
theorem i81_60 : m_G 81 60 [v0, v1, .int x0] st μ = m_G 81 61 [v0, v1, .int x0] (.int x0 :: st) μ := g_iload_n (i := 2) (by decide +kernel) rfl
theorem i81_61 : m_G 81 61 L st μ = m_G 81 63 L (.int 24 :: st) μ := g_bipush (n := 24) (by decide +kernel) (by decide)
theorem i81_63 (hy : ¬ x1 = 0) : m_G 81 63 L (.int x1 :: .int x0 :: st) μ = m_G 81 64 L (.int (x0 / x1) :: st) μ := g_idiv (by decide +kernel) hy
theorem i81_64 : m_G 81 64 L [.int x0] μ = some (some (.int x0), μ) := g_ireti (by decide +kernel) (by decide)
theorem i81_65 : m_G 81 65 [v0, v1, .int x0] st μ = m_G 81 66 [v0, v1, .int x0] (.int x0 :: st) μ := g_iload_n (i := 2) (by decide +kernel) rfl
theorem i81_66 : m_G 81 66 L st μ = m_G 81 68 L (.int 24 :: st) μ := g_bipush (n := 24) (by decide +kernel) (by decide)
theorem i81_68 (hy : ¬ x1 = 0) : m_G 81 68 L (.int x1 :: .int x0 :: st) μ = m_G 81 69 L (.int (x0 - x0 / x1 * x1) :: st) μ := g_irem (by decide +kernel) hy
theorem i81_69 : m_G 81 69 L [.int x0] μ = some (some (.int x0), μ) := g_ireti (by decide +kernel) (by decide)
theorem i81_70 : m_G 81 70 [.ref a0, v1, v2] st μ = m_G 81 71 [.ref a0, v1, v2] (.ref a0 :: st) μ := g_aload_n (i := 0) (by decide +kernel) rfl
theorem i81_71 : m_G 81 71 L (.ref a0 :: st) μ = b_v (m_gf μ a0 8 10) 81 74 L st μ := g_getf (i := 48) (by decide +kernel) (by decide +kernel)
theorem i81_74 : m_G 81 74 [v0, v1, .int x0] st μ = m_G 81 75 [v0, v1, .int x0] (.int x0 :: st) μ := g_iload_n (i := 2) (by decide +kernel) rfl
theorem i81_75 (ho : m_oc μ a0 = some 0) : m_G 81 75 L (.int x0 :: .ref a0 :: []) μ = b_c (m_D 5 [.ref a0, .int x0] μ) 81 78 L [] := g_virt (i := 207) (n := 1) (a := a0) (c := 0) (l := [(0, 5)]) (by decide +kernel) (by decide +kernel) rfl rfl (x_call_ok (ws := [1, 1]) (Nat.le_of_ble_eq_true rfl) rfl (by decide +kernel) rfl (by decide +kernel) rfl rfl) ho
theorem i81_78 : m_G 81 78 L [.int x0] μ = some (some (.int x0), μ) := g_ireti (by decide +kernel) (by decide)
theorem D81 : m_D 81 [.ref a0, .int x0] μ = m_G 81 0 [.ref a0, .int x0, m_d] [] μ := d_def (by decide) rfl
theorem i82_0 : m_G 82 0 [v0, .int x0, v2, v3] st μ = m_G 82 1 [v0, .int x0, v2, v3] (.int x0 :: st) μ := g_iload_n (i := 1) (by decide +kernel) rfl
theorem i82_1 : m_G 82 1 L (.int x0 :: st) μ = if x0 < 0 then m_G 82 29 L st μ else m_G 82 4 L st μ := g_iflt (off := 28) (by decide +kernel) (by decide)
theorem i82_4 : m_G 82 4 [v0, .int x0, v2, v3] st μ = m_G 82 5 [v0, .int x0, v2, v3] (.int x0 :: st) μ := g_iload_n (i := 1) (by decide +kernel) rfl
theorem i82_5 : m_G 82 5 L st μ = m_G 82 6 L (.int 3 :: st) μ := g_iconst (n := 3) (by decide +kernel) (by decide)
theorem i82_6 : m_G 82 6 L (.int x1 :: .int x0 :: st) μ = if x1 < x0 then m_G 82 29 L st μ else m_G 82 9 L st μ := g_cmpgt (off := 23) (by decide +kernel) (by decide)
theorem i82_9 : m_G 82 9 [v0, v1, .int x0, v3] st μ = m_G 82 10 [v0, v1, .int x0, v3] (.int x0 :: st) μ := g_iload_n (i := 2) (by decide +kernel) rfl
theorem i82_10 : m_G 82 10 L (.int x0 :: st) μ = if x0 < 0 then m_G 82 29 L st μ else m_G 82 13 L st μ := g_iflt (off := 19) (by decide +kernel) (by decide)
theorem i82_13 : m_G 82 13 [v0, v1, .int x0, v3] st μ = m_G 82 14 [v0, v1, .int x0, v3] (.int x0 :: st) μ := g_iload_n (i := 2) (by decide +kernel) rfl
theorem i82_14 : m_G 82 14 L st μ = m_G 82 16 L (.int 99 :: st) μ := g_bipush (n := 99) (by decide +kernel) (by decide)
theorem i82_16 : m_G 82 16 L (.int x1 :: .int x0 :: st) μ = if x1 < x0 then m_G 82 29 L st μ else m_G 82 19 L st μ := g_cmpgt (off := 13) (by decide +kernel) (by decide)
theorem i82_19 : m_G 82 19 [v0, v1, v2, .int x0] st μ = m_G 82 20 [v0, v1, v2, .int x0] (.int x0 :: st) μ := g_iload_n (i := 3) (by decide +kernel) rfl
theorem i82_20 : m_G 82 20 L (.int x0 :: st) μ = if x0 < 0 then m_G 82 29 L st μ else m_G 82 23 L st μ := g_iflt (off := 9) (by decide +kernel) (by decide)
theorem i82_23 : m_G 82 23 [v0, v1, v2, .int x0] st μ = m_G 82 24 [v0, v1, v2, .int x0] (.int x0 :: st) μ := g_iload_n (i := 3) (by decide +kernel) rfl
theorem i82_24 : m_G 82 24 L st μ = m_G 82 26 L (.int 99 :: st) μ := g_bipush (n := 99) (by decide +kernel) (by decide)
theorem i82_26 : m_G 82 26 L (.int x1 :: .int x0 :: st) μ = if x1 < x0 then m_G 82 29 L st μ else m_G 82 32 L st μ := g_cmple (off := 6) (by decide +kernel) (by decide)
theorem i82_29 : m_G 82 29 L st μ = m_G 82 31 L (.int (-102) :: st) μ := g_bipush (n := -102) (by decide +kernel) (by decide)
theorem i82_31 : m_G 82 31 L [.int x0] μ = some (some (.int x0), μ) := g_ireti (by decide +kernel) (by decide)
theorem i82_32 : m_G 82 32 [v0, .int x0, v2, v3] st μ = m_G 82 33 [v0, .int x0, v2, v3] (.int x0 :: st) μ := g_iload_n (i := 1) (by decide +kernel) rfl
theorem i82_33 : m_G 82 33 L (.int x0 :: st) μ = if x0 = 0 then m_G 82 41 L st μ else m_G 82 36 L st μ := g_ifeq (off := 8) (by decide +kernel) (by decide)
theorem i82_36 : m_G 82 36 [v0, .int x0, v2, v3] st μ = m_G 82 37 [v0, .int x0, v2, v3] (.int x0 :: st) μ := g_iload_n (i := 1) (by decide +kernel) rfl
theorem i82_37 : m_G 82 37 L st μ = m_G 82 38 L (.int 1 :: st) μ := g_iconst (n := 1) (by decide +kernel) (by decide)
theorem i82_38 : m_G 82 38 L (.int x1 :: .int x0 :: st) μ = if x0 = x1 then m_G 82 41 L st μ else m_G 82 49 L st μ := g_cmpne (off := 11) (by decide +kernel) (by decide)
theorem i82_41 : m_G 82 41 [v0, v1, v2, .int x0] st μ = m_G 82 42 [v0, v1, v2, .int x0] (.int x0 :: st) μ := g_iload_n (i := 3) (by decide +kernel) rfl
theorem i82_42 : m_G 82 42 [v0, v1, .int x0, v3] st μ = m_G 82 43 [v0, v1, .int x0, v3] (.int x0 :: st) μ := g_iload_n (i := 2) (by decide +kernel) rfl
theorem i82_43 : m_G 82 43 L (.int x1 :: .int x0 :: st) μ = if x0 < x1 then m_G 82 46 L st μ else m_G 82 49 L st μ := g_cmpge (off := 6) (by decide +kernel) (by decide)
theorem i82_46 : m_G 82 46 L st μ = m_G 82 48 L (.int (-102) :: st) μ := g_bipush (n := -102) (by decide +kernel) (by decide)
theorem i82_48 : m_G 82 48 L [.int x0] μ = some (some (.int x0), μ) := g_ireti (by decide +kernel) (by decide)
theorem i82_49 : m_G 82 49 [.ref a0, v1, v2, v3] st μ = m_G 82 50 [.ref a0, v1, v2, v3] (.ref a0 :: st) μ := g_aload_n (i := 0) (by decide +kernel) rfl
theorem i82_50 : m_G 82 50 L (.ref a0 :: st) μ = b_v (m_gf μ a0 8 7) 82 53 L st μ := g_getf (i := 120) (by decide +kernel) (by decide +kernel)
theorem i82_53 : m_G 82 53 L st μ = m_G 82 55 L (.int 8 :: st) μ := g_bipush (n := 8) (by decide +kernel) (by decide)
theorem i82_55 : m_G 82 55 L (.int x1 :: .int x0 :: st) μ = if x0 < x1 then m_G 82 61 L st μ else m_G 82 58 L st μ := g_cmplt (off := 6) (by decide +kernel) (by decide)
theorem i82_58 : m_G 82 58 L st μ = m_G 82 60 L (.int (-104) :: st) μ := g_bipush (n := -104) (by decide +kernel) (by decide)
theorem i82_60 : m_G 82 60 L [.int x0] μ = some (some (.int x0), μ) := g_ireti (by decide +kernel) (by decide)
theorem i82_61 : m_G 82 61 [.ref a0, v1, v2, v3] st μ = m_G 82 62 [.ref a0, v1, v2, v3] (.ref a0 :: st) μ := g_aload_n (i := 0) (by decide +kernel) rfl
theorem i82_62 : m_G 82 62 L (.ref a0 :: st) μ = b_v (m_gf μ a0 8 6) 82 65 L st μ := g_getf (i := 27) (by decide +kernel) (by decide +kernel)
theorem i82_65 : m_G 82 65 [.ref a0, v1, v2, v3] st μ = m_G 82 66 [.ref a0, v1, v2, v3] (.ref a0 :: st) μ := g_aload_n (i := 0) (by decide +kernel) rfl
theorem i82_66 : m_G 82 66 L (.ref a0 :: st) μ = b_v (m_gf μ a0 8 7) 82 69 L st μ := g_getf (i := 120) (by decide +kernel) (by decide +kernel)
theorem i82_69 : m_G 82 69 L st μ = m_G 82 72 L (.ref (mN μ) :: st) (m_new μ 3 (m_ob 1 [.int 0, .int 0, .int 0])) := g_new (i := 25) (by decide +kernel) (by decide +kernel) rfl (by decide +kernel)
theorem i82_72 : m_G 82 72 L (.ref a0 :: st) μ = m_G 82 73 L (.ref a0 :: .ref a0 :: st) μ := g_dupr (by decide +kernel)
theorem i82_72I : m_G 82 72 L (.int x0 :: st) μ = m_G 82 73 L (.int x0 :: .int x0 :: st) μ := g_dupi (by decide +kernel)
theorem i82_73 : m_G 82 73 [v0, .int x0, v2, v3] st μ = m_G 82 74 [v0, .int x0, v2, v3] (.int x0 :: st) μ := g_iload_n (i := 1) (by decide +kernel) rfl
theorem i82_74 : m_G 82 74 [v0, v1, .int x0, v3] st μ = m_G 82 75 [v0, v1, .int x0, v3] (.int x0 :: st) μ := g_iload_n (i := 2) (by decide +kernel) rfl
theorem i82_75 : m_G 82 75 [v0, v1, v2, .int x0] st μ = m_G 82 76 [v0, v1, v2, .int x0] (.int x0 :: st) μ := g_iload_n (i := 3) (by decide +kernel) rfl
theorem i82_76 : m_G 82 76 L (.int x2 :: .int x1 :: .int x0 :: .ref a0 :: [w0, w1, w2]) μ = b_c (m_D 7 [.ref a0, .int x0, .int x1, .int x2] μ) 82 79 L [w0, w1, w2] := g_spec (i := 210) (n := 3) (a := a0) (by decide +kernel) (by decide +kernel) rfl (x_call_ok (ws := [1, 1, 1, 1]) (Nat.le_of_ble_eq_true rfl) rfl (by decide +kernel) rfl (by decide +kernel) rfl rfl)
theorem i82_79 : m_G 82 79 L (.ref a1 :: .int x0 :: .ref a0 :: st) μ = b_m (m_pr μ a0 x0 a1) 82 80 L st := g_aast (by decide +kernel)
theorem i82_80 : m_G 82 80 [.ref a0, v1, v2, v3] st μ = m_G 82 81 [.ref a0, v1, v2, v3] (.ref a0 :: st) μ := g_aload_n (i := 0) (by decide +kernel) rfl
theorem i82_81 : m_G 82 81 L (.ref a0 :: st) μ = m_G 82 82 L (.ref a0 :: .ref a0 :: st) μ := g_dupr (by decide +kernel)
theorem i82_81I : m_G 82 81 L (.int x0 :: st) μ = m_G 82 82 L (.int x0 :: .int x0 :: st) μ := g_dupi (by decide +kernel)
theorem i82_82 : m_G 82 82 L (.ref a0 :: st) μ = b_v (m_gf μ a0 8 7) 82 85 L st μ := g_getf (i := 120) (by decide +kernel) (by decide +kernel)
theorem i82_85 : m_G 82 85 L st μ = m_G 82 86 L (.int 1 :: st) μ := g_iconst (n := 1) (by decide +kernel) (by decide)
theorem i82_86 : m_G 82 86 L (.int x1 :: .int x0 :: st) μ = m_G 82 87 L (.int (x0 + x1) :: st) μ := g_iadd (by decide +kernel)
theorem i82_87 : m_G 82 87 L (w0 :: .ref a0 :: st) μ = b_m (m_pf μ a0 8 7 .int w0) 82 90 L st := g_putf (i := 120) (by decide +kernel) (by decide +kernel) (Or.inl (by decide)) (by decide)
theorem i82_90 : m_G 82 90 [.ref a0, v1, v2, v3] st μ = m_G 82 91 [.ref a0, v1, v2, v3] (.ref a0 :: st) μ := g_aload_n (i := 0) (by decide +kernel) rfl
theorem i82_91 : m_G 82 91 L (.ref a0 :: st) μ = b_v (m_gf μ a0 8 7) 82 94 L st μ := g_getf (i := 120) (by decide +kernel) (by decide +kernel)
theorem i82_94 : m_G 82 94 L st μ = m_G 82 95 L (.int 1 :: st) μ := g_iconst (n := 1) (by decide +kernel) (by decide)
theorem i82_95 : m_G 82 95 L (.int x1 :: .int x0 :: st) μ = m_G 82 96 L (.int (x0 - x1) :: st) μ := g_isub (by decide +kernel)
theorem i82_96 : m_G 82 96 L [.int x0] μ = some (some (.int x0), μ) := g_ireti (by decide +kernel) (by decide)
theorem D82 : m_D 82 [.ref a0, .int x0, .int x1, .int x2] μ = m_G 82 0 [.ref a0, .int x0, .int x1, .int x2] [] μ := d_def (by decide) rfl
theorem i83_0 : m_G 83 0 [.ref a0, v1, v2, v3, v4, v5, v6, v7, v8] st μ = m_G 83 1 [.ref a0, v1, v2, v3, v4, v5, v6, v7, v8] (.ref a0 :: st) μ := g_aload_n (i := 0) (by decide +kernel) rfl
theorem i83_1 : m_G 83 1 [v0, .int x0, v2, v3, v4, v5, v6, v7, v8] st μ = m_G 83 2 [v0, .int x0, v2, v3, v4, v5, v6, v7, v8] (.int x0 :: st) μ := g_iload_n (i := 1) (by decide +kernel) rfl
theorem i83_2 (ho : m_oc μ a0 = some 8) : m_G 83 2 L (.int x0 :: .ref a0 :: []) μ = b_c (m_D 69 [.ref a0, .int x0] μ) 83 5 L [] := g_virt (i := 213) (n := 1) (a := a0) (c := 8) (l := [(8, 69)]) (by decide +kernel) (by decide +kernel) rfl rfl (x_call_ok (ws := [1, 1]) (Nat.le_of_ble_eq_true rfl) rfl (by decide +kernel) rfl (by decide +kernel) rfl rfl) ho
theorem i83_5 : m_G 83 5 [v0, v1, v2, v3, v4, v5, v6, v7, v8] (.ref a0 :: st) μ = m_G 83 7 [v0, v1, v2, v3, .ref a0, v5, v6, v7, v8] st μ := g_astore (i := 4) (by decide +kernel) (Nat.le_of_ble_eq_true rfl) rfl
theorem i83_5N : m_G 83 5 [v0, v1, v2, v3, v4, v5, v6, v7, v8] (.null :: st) μ = m_G 83 7 [v0, v1, v2, v3, .null, v5, v6, v7, v8] st μ := g_astoreN (i := 4) (by decide +kernel) (Nat.le_of_ble_eq_true rfl) rfl
theorem i83_7 : m_G 83 7 [.ref a0, v1, v2, v3, v4, v5, v6, v7, v8] st μ = m_G 83 8 [.ref a0, v1, v2, v3, v4, v5, v6, v7, v8] (.ref a0 :: st) μ := g_aload_n (i := 0) (by decide +kernel) rfl
theorem i83_8 : m_G 83 8 [v0, v1, .int x0, v3, v4, v5, v6, v7, v8] st μ = m_G 83 9 [v0, v1, .int x0, v3, v4, v5, v6, v7, v8] (.int x0 :: st) μ := g_iload_n (i := 2) (by decide +kernel) rfl
theorem i83_9 (ho : m_oc μ a0 = some 8) : m_G 83 9 L (.int x0 :: .ref a0 :: []) μ = b_c (m_D 68 [.ref a0, .int x0] μ) 83 12 L [] := g_virt (i := 123) (n := 1) (a := a0) (c := 8) (l := [(8, 68)]) (by decide +kernel) (by decide +kernel) rfl rfl (x_call_ok (ws := [1, 1]) (Nat.le_of_ble_eq_true rfl) rfl (by decide +kernel) rfl (by decide +kernel) rfl rfl) ho
theorem i83_12 : m_G 83 12 [v0, v1, v2, v3, v4, v5, v6, v7, v8] (.ref a0 :: st) μ = m_G 83 14 [v0, v1, v2, v3, v4, .ref a0, v6, v7, v8] st μ := g_astore (i := 5) (by decide +kernel) (Nat.le_of_ble_eq_true rfl) rfl
theorem i83_12N : m_G 83 12 [v0, v1, v2, v3, v4, v5, v6, v7, v8] (.null :: st) μ = m_G 83 14 [v0, v1, v2, v3, v4, .null, v6, v7, v8] st μ := g_astoreN (i := 5) (by decide +kernel) (Nat.le_of_ble_eq_true rfl) rfl
theorem i83_14 : m_G 83 14 [.ref a0, v1, v2, v3, v4, v5, v6, v7, v8] st μ = m_G 83 15 [.ref a0, v1, v2, v3, v4, v5, v6, v7, v8] (.ref a0 :: st) μ := g_aload_n (i := 0) (by decide +kernel) rfl
theorem i83_15 : m_G 83 15 [v0, v1, v2, .int x0, v4, v5, v6, v7, v8] st μ = m_G 83 16 [v0, v1, v2, .int x0, v4, v5, v6, v7, v8] (.int x0 :: st) μ := g_iload_n (i := 3) (by decide +kernel) rfl
theorem i83_16 (ho : m_oc μ a0 = some 8) : m_G 83 16 L (.int x0 :: .ref a0 :: []) μ = b_c (m_D 67 [.ref a0, .int x0] μ) 83 19 L [] := g_virt (i := 130) (n := 1) (a := a0) (c := 8) (l := [(8, 67)]) (by decide +kernel) (by decide +kernel) rfl rfl (x_call_ok (ws := [1, 1]) (Nat.le_of_ble_eq_true rfl) rfl (by decide +kernel) rfl (by decide +kernel) rfl rfl) ho
theorem i83_19 : m_G 83 19 [v0, v1, v2, v3, v4, v5, v6, v7, v8] (.ref a0 :: st) μ = m_G 83 21 [v0, v1, v2, v3, v4, v5, .ref a0, v7, v8] st μ := g_astore (i := 6) (by decide +kernel) (Nat.le_of_ble_eq_true rfl) rfl
theorem i83_19N : m_G 83 19 [v0, v1, v2, v3, v4, v5, v6, v7, v8] (.null :: st) μ = m_G 83 21 [v0, v1, v2, v3, v4, v5, .null, v7, v8] st μ := g_astoreN (i := 6) (by decide +kernel) (Nat.le_of_ble_eq_true rfl) rfl
theorem i83_21 : m_G 83 21 [v0, v1, v2, v3, .ref a0, v5, v6, v7, v8] st μ = m_G 83 23 [v0, v1, v2, v3, .ref a0, v5, v6, v7, v8] (.ref a0 :: st) μ := g_aload (i := 4) (by decide +kernel) rfl
theorem i83_21N : m_G 83 21 [v0, v1, v2, v3, .null, v5, v6, v7, v8] st μ = m_G 83 23 [v0, v1, v2, v3, .null, v5, v6, v7, v8] (.null :: st) μ := g_aloadN (i := 4) (by decide +kernel) rfl
theorem i83_23 : m_G 83 23 L (.ref a0 :: st) μ = m_G 83 26 L st μ := g_ifnull (off := 13) (by decide +kernel)
theorem i83_23N : m_G 83 23 L (.null :: st) μ = m_G 83 36 L st μ := g_ifnullN (off := 13) (by decide +kernel) (by decide)
theorem i83_26 : m_G 83 26 [v0, v1, v2, v3, v4, .ref a0, v6, v7, v8] st μ = m_G 83 28 [v0, v1, v2, v3, v4, .ref a0, v6, v7, v8] (.ref a0 :: st) μ := g_aload (i := 5) (by decide +kernel) rfl
theorem i83_26N : m_G 83 26 [v0, v1, v2, v3, v4, .null, v6, v7, v8] st μ = m_G 83 28 [v0, v1, v2, v3, v4, .null, v6, v7, v8] (.null :: st) μ := g_aloadN (i := 5) (by decide +kernel) rfl
theorem i83_28 : m_G 83 28 L (.ref a0 :: st) μ = m_G 83 31 L st μ := g_ifnull (off := 8) (by decide +kernel)
theorem i83_28N : m_G 83 28 L (.null :: st) μ = m_G 83 36 L st μ := g_ifnullN (off := 8) (by decide +kernel) (by decide)
theorem i83_31 : m_G 83 31 [v0, v1, v2, v3, v4, v5, .ref a0, v7, v8] st μ = m_G 83 33 [v0, v1, v2, v3, v4, v5, .ref a0, v7, v8] (.ref a0 :: st) μ := g_aload (i := 6) (by decide +kernel) rfl
theorem i83_31N : m_G 83 31 [v0, v1, v2, v3, v4, v5, .null, v7, v8] st μ = m_G 83 33 [v0, v1, v2, v3, v4, v5, .null, v7, v8] (.null :: st) μ := g_aloadN (i := 6) (by decide +kernel) rfl
theorem i83_33 : m_G 83 33 L (.ref a0 :: st) μ = m_G 83 39 L st μ := g_ifnonnull (off := 6) (by decide +kernel) (by decide)
theorem i83_33N : m_G 83 33 L (.null :: st) μ = m_G 83 36 L st μ := g_ifnonnullN (off := 6) (by decide +kernel)
theorem i83_36 : m_G 83 36 L st μ = m_G 83 38 L (.int (-101) :: st) μ := g_bipush (n := -101) (by decide +kernel) (by decide)
theorem i83_38 : m_G 83 38 L [.int x0] μ = some (some (.int x0), μ) := g_ireti (by decide +kernel) (by decide)
theorem i83_39 : m_G 83 39 [.ref a0, v1, v2, v3, v4, v5, v6, v7, v8] st μ = m_G 83 40 [.ref a0, v1, v2, v3, v4, v5, v6, v7, v8] (.ref a0 :: st) μ := g_aload_n (i := 0) (by decide +kernel) rfl
theorem i83_40 : m_G 83 40 [v0, v1, v2, .int x0, v4, v5, v6, v7, v8] st μ = m_G 83 41 [v0, v1, v2, .int x0, v4, v5, v6, v7, v8] (.int x0 :: st) μ := g_iload_n (i := 3) (by decide +kernel) rfl
theorem i83_41 : m_G 83 41 L st μ = m_G 83 42 L (.int 1 :: st) μ := g_iconst (n := 1) (by decide +kernel) (by decide)
theorem i83_42 : m_G 83 42 L (.int x1 :: .int x0 :: st) μ = m_G 83 43 L (.int (x0 - x1) :: st) μ := g_isub (by decide +kernel)
theorem i83_43 (ho : m_oc μ a0 = some 8) : m_G 83 43 L (.int x0 :: .ref a0 :: []) μ = b_c (m_D 67 [.ref a0, .int x0] μ) 83 46 L [] := g_virt (i := 130) (n := 1) (a := a0) (c := 8) (l := [(8, 67)]) (by decide +kernel) (by decide +kernel) rfl rfl (x_call_ok (ws := [1, 1]) (Nat.le_of_ble_eq_true rfl) rfl (by decide +kernel) rfl (by decide +kernel) rfl rfl) ho
theorem i83_46 : m_G 83 46 [v0, v1, v2, v3, v4, v5, v6, v7, v8] (.ref a0 :: st) μ = m_G 83 48 [v0, v1, v2, v3, v4, v5, v6, .ref a0, v8] st μ := g_astore (i := 7) (by decide +kernel) (Nat.le_of_ble_eq_true rfl) rfl
theorem i83_46N : m_G 83 46 [v0, v1, v2, v3, v4, v5, v6, v7, v8] (.null :: st) μ = m_G 83 48 [v0, v1, v2, v3, v4, v5, v6, .null, v8] st μ := g_astoreN (i := 7) (by decide +kernel) (Nat.le_of_ble_eq_true rfl) rfl
theorem i83_48 : m_G 83 48 [v0, v1, v2, v3, v4, v5, v6, .ref a0, v8] st μ = m_G 83 50 [v0, v1, v2, v3, v4, v5, v6, .ref a0, v8] (.ref a0 :: st) μ := g_aload (i := 7) (by decide +kernel) rfl
theorem i83_48N : m_G 83 48 [v0, v1, v2, v3, v4, v5, v6, .null, v8] st μ = m_G 83 50 [v0, v1, v2, v3, v4, v5, v6, .null, v8] (.null :: st) μ := g_aloadN (i := 7) (by decide +kernel) rfl
theorem i83_50 : m_G 83 50 L (.ref a0 :: st) μ = m_G 83 57 L st μ := g_ifnonnull (off := 7) (by decide +kernel) (by decide)
theorem i83_50N : m_G 83 50 L (.null :: st) μ = m_G 83 53 L st μ := g_ifnonnullN (off := 7) (by decide +kernel)
theorem i83_53 : m_G 83 53 L st μ = m_G 83 54 L (.int 0 :: st) μ := g_iconst (n := 0) (by decide +kernel) (by decide)
theorem i83_54 : m_G 83 54 L st μ = m_G 83 65 L st μ := g_goto (off := 11) (by decide +kernel) (by decide)
theorem i83_57 : m_G 83 57 [v0, v1, v2, v3, v4, .ref a0, v6, v7, v8] st μ = m_G 83 59 [v0, v1, v2, v3, v4, .ref a0, v6, v7, v8] (.ref a0 :: st) μ := g_aload (i := 5) (by decide +kernel) rfl
theorem i83_57N : m_G 83 57 [v0, v1, v2, v3, v4, .null, v6, v7, v8] st μ = m_G 83 59 [v0, v1, v2, v3, v4, .null, v6, v7, v8] (.null :: st) μ := g_aloadN (i := 5) (by decide +kernel) rfl
theorem i83_59 : m_G 83 59 [v0, v1, v2, v3, v4, v5, v6, .ref a0, v8] st μ = m_G 83 61 [v0, v1, v2, v3, v4, v5, v6, .ref a0, v8] (.ref a0 :: st) μ := g_aload (i := 7) (by decide +kernel) rfl
theorem i83_59N : m_G 83 59 [v0, v1, v2, v3, v4, v5, v6, .null, v8] st μ = m_G 83 61 [v0, v1, v2, v3, v4, v5, v6, .null, v8] (.null :: st) μ := g_aloadN (i := 7) (by decide +kernel) rfl
theorem i83_61 : m_G 83 61 L st μ = m_G 83 62 L (.int 1 :: st) μ := g_iconst (n := 1) (by decide +kernel) (by decide)
theorem i83_62 (ho : m_oc μ a0 = some 6) : m_G 83 62 L (.int x1 :: .ref a1 :: .ref a0 :: []) μ = b_c (m_D 49 [.ref a0, .ref a1, .int x1] μ) 83 65 L [] := g_virt (i := 158) (n := 2) (a := a0) (c := 6) (l := [(6, 49)]) (by decide +kernel) (by decide +kernel) rfl rfl (x_call_ok (ws := [1, 1, 1]) (Nat.le_of_ble_eq_true rfl) rfl (by decide +kernel) rfl (by decide +kernel) rfl rfl) ho
theorem i83_65 : m_G 83 65 [v0, v1, v2, v3, v4, v5, v6, v7, v8] (.int x0 :: st) μ = m_G 83 67 [v0, v1, v2, v3, v4, v5, v6, v7, .int x0] st μ := g_istore (i := 8) (by decide +kernel) (Nat.le_of_ble_eq_true rfl) rfl
theorem i83_67 : m_G 83 67 [v0, v1, v2, v3, .ref a0, v5, v6, v7, v8] st μ = m_G 83 69 [v0, v1, v2, v3, .ref a0, v5, v6, v7, v8] (.ref a0 :: st) μ := g_aload (i := 4) (by decide +kernel) rfl
theorem i83_67N : m_G 83 67 [v0, v1, v2, v3, .null, v5, v6, v7, v8] st μ = m_G 83 69 [v0, v1, v2, v3, .null, v5, v6, v7, v8] (.null :: st) μ := g_aloadN (i := 4) (by decide +kernel) rfl
theorem i83_69 : m_G 83 69 [v0, v1, v2, v3, v4, v5, .ref a0, v7, v8] st μ = m_G 83 71 [v0, v1, v2, v3, v4, v5, .ref a0, v7, v8] (.ref a0 :: st) μ := g_aload (i := 6) (by decide +kernel) rfl
theorem i83_69N : m_G 83 69 [v0, v1, v2, v3, v4, v5, .null, v7, v8] st μ = m_G 83 71 [v0, v1, v2, v3, v4, v5, .null, v7, v8] (.null :: st) μ := g_aloadN (i := 6) (by decide +kernel) rfl
theorem i83_71 : m_G 83 71 [v0, v1, v2, v3, v4, .ref a0, v6, v7, v8] st μ = m_G 83 73 [v0, v1, v2, v3, v4, .ref a0, v6, v7, v8] (.ref a0 :: st) μ := g_aload (i := 5) (by decide +kernel) rfl
theorem i83_71N : m_G 83 71 [v0, v1, v2, v3, v4, .null, v6, v7, v8] st μ = m_G 83 73 [v0, v1, v2, v3, v4, .null, v6, v7, v8] (.null :: st) μ := g_aloadN (i := 5) (by decide +kernel) rfl
theorem i83_73 : m_G 83 73 [v0, v1, v2, v3, v4, v5, .ref a0, v7, v8] st μ = m_G 83 75 [v0, v1, v2, v3, v4, v5, .ref a0, v7, v8] (.ref a0 :: st) μ := g_aload (i := 6) (by decide +kernel) rfl
theorem i83_73N : m_G 83 73 [v0, v1, v2, v3, v4, v5, .null, v7, v8] st μ = m_G 83 75 [v0, v1, v2, v3, v4, v5, .null, v7, v8] (.null :: st) μ := g_aloadN (i := 6) (by decide +kernel) rfl
theorem i83_75 : m_G 83 75 L st μ = m_G 83 76 L (.int 1 :: st) μ := g_iconst (n := 1) (by decide +kernel) (by decide)
theorem i83_76 (ho : m_oc μ a0 = some 6) : m_G 83 76 L (.int x1 :: .ref a1 :: .ref a0 :: [w0, w1]) μ = b_c (m_D 49 [.ref a0, .ref a1, .int x1] μ) 83 79 L [w0, w1] := g_virt (i := 158) (n := 2) (a := a0) (c := 6) (l := [(6, 49)]) (by decide +kernel) (by decide +kernel) rfl rfl (x_call_ok (ws := [1, 1, 1]) (Nat.le_of_ble_eq_true rfl) rfl (by decide +kernel) rfl (by decide +kernel) rfl rfl) ho
theorem i83_79 : m_G 83 79 [v0, v1, v2, v3, v4, v5, v6, .ref a0, v8] st μ = m_G 83 81 [v0, v1, v2, v3, v4, v5, v6, .ref a0, v8] (.ref a0 :: st) μ := g_aload (i := 7) (by decide +kernel) rfl
theorem i83_79N : m_G 83 79 [v0, v1, v2, v3, v4, v5, v6, .null, v8] st μ = m_G 83 81 [v0, v1, v2, v3, v4, v5, v6, .null, v8] (.null :: st) μ := g_aloadN (i := 7) (by decide +kernel) rfl
theorem i83_81 : m_G 83 81 [v0, v1, v2, v3, v4, v5, v6, v7, .int x0] st μ = m_G 83 83 [v0, v1, v2, v3, v4, v5, v6, v7, .int x0] (.int x0 :: st) μ := g_iload (i := 8) (by decide +kernel) rfl
theorem i83_83 (ho : m_oc μ a0 = some 1) : m_G 83 83 L (.int x3 :: .ref a3 :: .int x1 :: .ref a1 :: .ref a0 :: []) μ = b_c (m_D 8 [.ref a0, .ref a1, .int x1, .ref a3, .int x3] μ) 83 86 L [] := g_virt (i := 217) (n := 4) (a := a0) (c := 1) (l := [(1, 8)]) (by decide +kernel) (by decide +kernel) rfl rfl (x_call_ok (ws := [1, 1, 1, 1, 1]) (Nat.le_of_ble_eq_true rfl) rfl (by decide +kernel) rfl (by decide +kernel) rfl rfl) ho
theorem i83_83N (ho : m_oc μ a0 = some 1) : m_G 83 83 L (.int x3 :: .null :: .int x1 :: .ref a1 :: .ref a0 :: []) μ = b_c (m_D 8 [.ref a0, .ref a1, .int x1, .null, .int x3] μ) 83 86 L [] := g_virt (i := 217) (n := 4) (a := a0) (c := 1) (l := [(1, 8)]) (by decide +kernel) (by decide +kernel) rfl rfl (x_call_ok (ws := [1, 1, 1, 1, 1]) (Nat.le_of_ble_eq_true rfl) rfl (by decide +kernel) rfl (by decide +kernel) rfl rfl) ho
theorem i83_86 : m_G 83 86 L (.int x0 :: st) μ = if x0 = 0 then m_G 83 93 L st μ else m_G 83 89 L st μ := g_ifeq (off := 7) (by decide +kernel) (by decide)
theorem i83_89 : m_G 83 89 L st μ = m_G 83 90 L (.int 1 :: st) μ := g_iconst (n := 1) (by decide +kernel) (by decide)
theorem i83_90 : m_G 83 90 L st μ = m_G 83 94 L st μ := g_goto (off := 4) (by decide +kernel) (by decide)
theorem i83_93 : m_G 83 93 L st μ = m_G 83 94 L (.int 0 :: st) μ := g_iconst (n := 0) (by decide +kernel) (by decide)
theorem i83_94 : m_G 83 94 L [.int x0] μ = some (some (.int x0), μ) := g_ireti (by decide +kernel) (by decide)
theorem D83 : m_D 83 [.ref a0, .int x0, .int x1, .int x2] μ = m_G 83 0 [.ref a0, .int x0, .int x1, .int x2, m_d, m_d, m_d, m_d, m_d] [] μ := d_def (by decide) rfl
theorem i84_0 : m_G 84 0 [.ref a0, v1, v2, v3, v4, v5, v6, v7, v8, v9] st μ = m_G 84 1 [.ref a0, v1, v2, v3, v4, v5, v6, v7, v8, v9] (.ref a0 :: st) μ := g_aload_n (i := 0) (by decide +kernel) rfl
theorem i84_1 : m_G 84 1 [v0, .int x0, v2, v3, v4, v5, v6, v7, v8, v9] st μ = m_G 84 2 [v0, .int x0, v2, v3, v4, v5, v6, v7, v8, v9] (.int x0 :: st) μ := g_iload_n (i := 1) (by decide +kernel) rfl
theorem i84_2 (ho : m_oc μ a0 = some 8) : m_G 84 2 L (.int x0 :: .ref a0 :: []) μ = b_c (m_D 68 [.ref a0, .int x0] μ) 84 5 L [] := g_virt (i := 123) (n := 1) (a := a0) (c := 8) (l := [(8, 68)]) (by decide +kernel) (by decide +kernel) rfl rfl (x_call_ok (ws := [1, 1]) (Nat.le_of_ble_eq_true rfl) rfl (by decide +kernel) rfl (by decide +kernel) rfl rfl) ho
theorem i84_5 : m_G 84 5 [v0, v1, v2, v3, v4, v5, v6, v7, v8, v9] (.ref a0 :: st) μ = m_G 84 6 [v0, v1, v2, .ref a0, v4, v5, v6, v7, v8, v9] st μ := g_astore_n (i := 3) (by decide +kernel) (Nat.le_of_ble_eq_true rfl) rfl
theorem i84_5N : m_G 84 5 [v0, v1, v2, v3, v4, v5, v6, v7, v8, v9] (.null :: st) μ = m_G 84 6 [v0, v1, v2, .null, v4, v5, v6, v7, v8, v9] st μ := g_astore_nN (i := 3) (by decide +kernel) (Nat.le_of_ble_eq_true rfl) rfl
theorem i84_6 : m_G 84 6 [.ref a0, v1, v2, v3, v4, v5, v6, v7, v8, v9] st μ = m_G 84 7 [.ref a0, v1, v2, v3, v4, v5, v6, v7, v8, v9] (.ref a0 :: st) μ := g_aload_n (i := 0) (by decide +kernel) rfl
theorem i84_7 : m_G 84 7 [v0, v1, .int x0, v3, v4, v5, v6, v7, v8, v9] st μ = m_G 84 8 [v0, v1, .int x0, v3, v4, v5, v6, v7, v8, v9] (.int x0 :: st) μ := g_iload_n (i := 2) (by decide +kernel) rfl
theorem i84_8 (ho : m_oc μ a0 = some 8) : m_G 84 8 L (.int x0 :: .ref a0 :: []) μ = b_c (m_D 67 [.ref a0, .int x0] μ) 84 11 L [] := g_virt (i := 130) (n := 1) (a := a0) (c := 8) (l := [(8, 67)]) (by decide +kernel) (by decide +kernel) rfl rfl (x_call_ok (ws := [1, 1]) (Nat.le_of_ble_eq_true rfl) rfl (by decide +kernel) rfl (by decide +kernel) rfl rfl) ho
theorem i84_11 : m_G 84 11 [v0, v1, v2, v3, v4, v5, v6, v7, v8, v9] (.ref a0 :: st) μ = m_G 84 13 [v0, v1, v2, v3, .ref a0, v5, v6, v7, v8, v9] st μ := g_astore (i := 4) (by decide +kernel) (Nat.le_of_ble_eq_true rfl) rfl
theorem i84_11N : m_G 84 11 [v0, v1, v2, v3, v4, v5, v6, v7, v8, v9] (.null :: st) μ = m_G 84 13 [v0, v1, v2, v3, .null, v5, v6, v7, v8, v9] st μ := g_astoreN (i := 4) (by decide +kernel) (Nat.le_of_ble_eq_true rfl) rfl
theorem i84_13 : m_G 84 13 [v0, v1, v2, .ref a0, v4, v5, v6, v7, v8, v9] st μ = m_G 84 14 [v0, v1, v2, .ref a0, v4, v5, v6, v7, v8, v9] (.ref a0 :: st) μ := g_aload_n (i := 3) (by decide +kernel) rfl
theorem i84_13N : m_G 84 13 [v0, v1, v2, .null, v4, v5, v6, v7, v8, v9] st μ = m_G 84 14 [v0, v1, v2, .null, v4, v5, v6, v7, v8, v9] (.null :: st) μ := g_aload_nN (i := 3) (by decide +kernel) rfl
theorem i84_14 : m_G 84 14 L (.ref a0 :: st) μ = m_G 84 17 L st μ := g_ifnull (off := 8) (by decide +kernel)
theorem i84_14N : m_G 84 14 L (.null :: st) μ = m_G 84 22 L st μ := g_ifnullN (off := 8) (by decide +kernel) (by decide)
theorem i84_17 : m_G 84 17 [v0, v1, v2, v3, .ref a0, v5, v6, v7, v8, v9] st μ = m_G 84 19 [v0, v1, v2, v3, .ref a0, v5, v6, v7, v8, v9] (.ref a0 :: st) μ := g_aload (i := 4) (by decide +kernel) rfl
theorem i84_17N : m_G 84 17 [v0, v1, v2, v3, .null, v5, v6, v7, v8, v9] st μ = m_G 84 19 [v0, v1, v2, v3, .null, v5, v6, v7, v8, v9] (.null :: st) μ := g_aloadN (i := 4) (by decide +kernel) rfl
theorem i84_19 : m_G 84 19 L (.ref a0 :: st) μ = m_G 84 25 L st μ := g_ifnonnull (off := 6) (by decide +kernel) (by decide)
theorem i84_19N : m_G 84 19 L (.null :: st) μ = m_G 84 22 L st μ := g_ifnonnullN (off := 6) (by decide +kernel)
theorem i84_22 : m_G 84 22 L st μ = m_G 84 24 L (.int (-101) :: st) μ := g_bipush (n := -101) (by decide +kernel) (by decide)
theorem i84_24 : m_G 84 24 L [.int x0] μ = some (some (.int x0), μ) := g_ireti (by decide +kernel) (by decide)
theorem i84_25 : m_G 84 25 [v0, v1, v2, .ref a0, v4, v5, v6, v7, v8, v9] st μ = m_G 84 26 [v0, v1, v2, .ref a0, v4, v5, v6, v7, v8, v9] (.ref a0 :: st) μ := g_aload_n (i := 3) (by decide +kernel) rfl
theorem i84_25N : m_G 84 25 [v0, v1, v2, .null, v4, v5, v6, v7, v8, v9] st μ = m_G 84 26 [v0, v1, v2, .null, v4, v5, v6, v7, v8, v9] (.null :: st) μ := g_aload_nN (i := 3) (by decide +kernel) rfl
theorem i84_26 : m_G 84 26 [v0, v1, v2, v3, .ref a0, v5, v6, v7, v8, v9] st μ = m_G 84 28 [v0, v1, v2, v3, .ref a0, v5, v6, v7, v8, v9] (.ref a0 :: st) μ := g_aload (i := 4) (by decide +kernel) rfl
theorem i84_26N : m_G 84 26 [v0, v1, v2, v3, .null, v5, v6, v7, v8, v9] st μ = m_G 84 28 [v0, v1, v2, v3, .null, v5, v6, v7, v8, v9] (.null :: st) μ := g_aloadN (i := 4) (by decide +kernel) rfl
theorem i84_28 : m_G 84 28 L st μ = m_G 84 29 L (.int 1 :: st) μ := g_iconst (n := 1) (by decide +kernel) (by decide)
theorem i84_29 (ho : m_oc μ a0 = some 6) : m_G 84 29 L (.int x1 :: .ref a1 :: .ref a0 :: []) μ = b_c (m_D 49 [.ref a0, .ref a1, .int x1] μ) 84 32 L [] := g_virt (i := 158) (n := 2) (a := a0) (c := 6) (l := [(6, 49)]) (by decide +kernel) (by decide +kernel) rfl rfl (x_call_ok (ws := [1, 1, 1]) (Nat.le_of_ble_eq_true rfl) rfl (by decide +kernel) rfl (by decide +kernel) rfl rfl) ho
theorem i84_32 : m_G 84 32 [v0, v1, v2, v3, v4, v5, v6, v7, v8, v9] (.int x0 :: st) μ = m_G 84 34 [v0, v1, v2, v3, v4, .int x0, v6, v7, v8, v9] st μ := g_istore (i := 5) (by decide +kernel) (Nat.le_of_ble_eq_true rfl) rfl
theorem i84_34 : m_G 84 34 [v0, v1, v2, v3, v4, .int x0, v6, v7, v8, v9] st μ = m_G 84 36 [v0, v1, v2, v3, v4, .int x0, v6, v7, v8, v9] (.int x0 :: st) μ := g_iload (i := 5) (by decide +kernel) rfl
theorem i84_36 : m_G 84 36 L (.int x0 :: st) μ = if x0 = 0 then m_G 84 39 L st μ else m_G 84 41 L st μ := g_ifne (off := 5) (by decide +kernel) (by decide)
theorem i84_39 : m_G 84 39 L st μ = m_G 84 40 L (.int 1 :: st) μ := g_iconst (n := 1) (by decide +kernel) (by decide)
theorem i84_40 : m_G 84 40 L [.int x0] μ = some (some (.int x0), μ) := g_ireti (by decide +kernel) (by decide)
theorem i84_41 : m_G 84 41 [.ref a0, v1, v2, v3, v4, v5, v6, v7, v8, v9] st μ = m_G 84 42 [.ref a0, v1, v2, v3, v4, v5, v6, v7, v8, v9] (.ref a0 :: st) μ := g_aload_n (i := 0) (by decide +kernel) rfl
theorem i84_42 : m_G 84 42 [v0, v1, .int x0, v3, v4, v5, v6, v7, v8, v9] st μ = m_G 84 43 [v0, v1, .int x0, v3, v4, v5, v6, v7, v8, v9] (.int x0 :: st) μ := g_iload_n (i := 2) (by decide +kernel) rfl
theorem i84_43 : m_G 84 43 L st μ = m_G 84 44 L (.int 1 :: st) μ := g_iconst (n := 1) (by decide +kernel) (by decide)
theorem i84_44 : m_G 84 44 L (.int x1 :: .int x0 :: st) μ = m_G 84 45 L (.int (x0 - x1) :: st) μ := g_isub (by decide +kernel)
theorem i84_45 (ho : m_oc μ a0 = some 8) : m_G 84 45 L (.int x0 :: .ref a0 :: []) μ = b_c (m_D 67 [.ref a0, .int x0] μ) 84 48 L [] := g_virt (i := 130) (n := 1) (a := a0) (c := 8) (l := [(8, 67)]) (by decide +kernel) (by decide +kernel) rfl rfl (x_call_ok (ws := [1, 1]) (Nat.le_of_ble_eq_true rfl) rfl (by decide +kernel) rfl (by decide +kernel) rfl rfl) ho
theorem i84_48 : m_G 84 48 [v0, v1, v2, v3, v4, v5, v6, v7, v8, v9] (.ref a0 :: st) μ = m_G 84 50 [v0, v1, v2, v3, v4, v5, .ref a0, v7, v8, v9] st μ := g_astore (i := 6) (by decide +kernel) (Nat.le_of_ble_eq_true rfl) rfl
theorem i84_48N : m_G 84 48 [v0, v1, v2, v3, v4, v5, v6, v7, v8, v9] (.null :: st) μ = m_G 84 50 [v0, v1, v2, v3, v4, v5, .null, v7, v8, v9] st μ := g_astoreN (i := 6) (by decide +kernel) (Nat.le_of_ble_eq_true rfl) rfl
theorem i84_50 : m_G 84 50 [v0, v1, v2, v3, v4, v5, .ref a0, v7, v8, v9] st μ = m_G 84 52 [v0, v1, v2, v3, v4, v5, .ref a0, v7, v8, v9] (.ref a0 :: st) μ := g_aload (i := 6) (by decide +kernel) rfl
theorem i84_50N : m_G 84 50 [v0, v1, v2, v3, v4, v5, .null, v7, v8, v9] st μ = m_G 84 52 [v0, v1, v2, v3, v4, v5, .null, v7, v8, v9] (.null :: st) μ := g_aloadN (i := 6) (by decide +kernel) rfl
theorem i84_52 : m_G 84 52 L (.ref a0 :: st) μ = m_G 84 59 L st μ := g_ifnonnull (off := 7) (by decide +kernel) (by decide)
theorem i84_52N : m_G 84 52 L (.null :: st) μ = m_G 84 55 L st μ := g_ifnonnullN (off := 7) (by decide +kernel)
theorem i84_55 : m_G 84 55 L st μ = m_G 84 56 L (.int 0 :: st) μ := g_iconst (n := 0) (by decide +kernel) (by decide)
theorem i84_56 : m_G 84 56 L st μ = m_G 84 66 L st μ := g_goto (off := 10) (by decide +kernel) (by decide)
theorem i84_59 : m_G 84 59 [v0, v1, v2, .ref a0, v4, v5, v6, v7, v8, v9] st μ = m_G 84 60 [v0, v1, v2, .ref a0, v4, v5, v6, v7, v8, v9] (.ref a0 :: st) μ := g_aload_n (i := 3) (by decide +kernel) rfl
theorem i84_59N : m_G 84 59 [v0, v1, v2, .null, v4, v5, v6, v7, v8, v9] st μ = m_G 84 60 [v0, v1, v2, .null, v4, v5, v6, v7, v8, v9] (.null :: st) μ := g_aload_nN (i := 3) (by decide +kernel) rfl
theorem i84_60 : m_G 84 60 [v0, v1, v2, v3, v4, v5, .ref a0, v7, v8, v9] st μ = m_G 84 62 [v0, v1, v2, v3, v4, v5, .ref a0, v7, v8, v9] (.ref a0 :: st) μ := g_aload (i := 6) (by decide +kernel) rfl
theorem i84_60N : m_G 84 60 [v0, v1, v2, v3, v4, v5, .null, v7, v8, v9] st μ = m_G 84 62 [v0, v1, v2, v3, v4, v5, .null, v7, v8, v9] (.null :: st) μ := g_aloadN (i := 6) (by decide +kernel) rfl
theorem i84_62 : m_G 84 62 L st μ = m_G 84 63 L (.int 1 :: st) μ := g_iconst (n := 1) (by decide +kernel) (by decide)
theorem i84_63 (ho : m_oc μ a0 = some 6) : m_G 84 63 L (.int x1 :: .ref a1 :: .ref a0 :: []) μ = b_c (m_D 49 [.ref a0, .ref a1, .int x1] μ) 84 66 L [] := g_virt (i := 158) (n := 2) (a := a0) (c := 6) (l := [(6, 49)]) (by decide +kernel) (by decide +kernel) rfl rfl (x_call_ok (ws := [1, 1, 1]) (Nat.le_of_ble_eq_true rfl) rfl (by decide +kernel) rfl (by decide +kernel) rfl rfl) ho
theorem i84_66 : m_G 84 66 [v0, v1, v2, v3, v4, v5, v6, v7, v8, v9] (.int x0 :: st) μ = m_G 84 68 [v0, v1, v2, v3, v4, v5, v6, .int x0, v8, v9] st μ := g_istore (i := 7) (by decide +kernel) (Nat.le_of_ble_eq_true rfl) rfl
theorem i84_68 : m_G 84 68 L st μ = m_G 84 69 L (.int 0 :: st) μ := g_iconst (n := 0) (by decide +kernel) (by decide)
theorem i84_69 : m_G 84 69 [v0, v1, v2, v3, v4, v5, v6, v7, v8, v9] (.int x0 :: st) μ = m_G 84 71 [v0, v1, v2, v3, v4, v5, v6, v7, .int x0, v9] st μ := g_istore (i := 8) (by decide +kernel) (Nat.le_of_ble_eq_true rfl) rfl
theorem i84_71 : m_G 84 71 L st μ = m_G 84 72 L (.int 0 :: st) μ := g_iconst (n := 0) (by decide +kernel) (by decide)
theorem i84_72 : m_G 84 72 [v0, v1, v2, v3, v4, v5, v6, v7, v8, v9] (.int x0 :: st) μ = m_G 84 74 [v0, v1, v2, v3, v4, v5, v6, v7, v8, .int x0] st μ := g_istore (i := 9) (by decide +kernel) (Nat.le_of_ble_eq_true rfl) rfl
theorem i84_74 : m_G 84 74 [v0, v1, v2, v3, v4, v5, v6, v7, v8, .int x0] st μ = m_G 84 76 [v0, v1, v2, v3, v4, v5, v6, v7, v8, .int x0] (.int x0 :: st) μ := g_iload (i := 9) (by decide +kernel) rfl
theorem i84_76 : m_G 84 76 [.ref a0, v1, v2, v3, v4, v5, v6, v7, v8, v9] st μ = m_G 84 77 [.ref a0, v1, v2, v3, v4, v5, v6, v7, v8, v9] (.ref a0 :: st) μ := g_aload_n (i := 0) (by decide +kernel) rfl
theorem i84_77 : m_G 84 77 L (.ref a0 :: st) μ = b_v (m_gf μ a0 8 7) 84 80 L st μ := g_getf (i := 120) (by decide +kernel) (by decide +kernel)
theorem i84_80 : m_G 84 80 L (.int x1 :: .int x0 :: st) μ = if x0 < x1 then m_G 84 83 L st μ else m_G 84 119 L st μ := g_cmpge (off := 39) (by decide +kernel) (by decide)
theorem i84_83 : m_G 84 83 [.ref a0, v1, v2, v3, v4, v5, v6, v7, v8, v9] st μ = m_G 84 84 [.ref a0, v1, v2, v3, v4, v5, v6, v7, v8, v9] (.ref a0 :: st) μ := g_aload_n (i := 0) (by decide +kernel) rfl
theorem i84_84 : m_G 84 84 L (.ref a0 :: st) μ = b_v (m_gf μ a0 8 6) 84 87 L st μ := g_getf (i := 27) (by decide +kernel) (by decide +kernel)
theorem i84_87 : m_G 84 87 [v0, v1, v2, v3, v4, v5, v6, v7, v8, .int x0] st μ = m_G 84 89 [v0, v1, v2, v3, v4, v5, v6, v7, v8, .int x0] (.int x0 :: st) μ := g_iload (i := 9) (by decide +kernel) rfl
theorem i84_89 : m_G 84 89 L (.int x0 :: .ref a0 :: st) μ = b_r (m_gr μ a0 x0) 84 90 L st μ := g_aald (by decide +kernel)
theorem i84_90 : m_G 84 90 [v0, v1, v2, v3, .ref a0, v5, v6, v7, v8, v9] st μ = m_G 84 92 [v0, v1, v2, v3, .ref a0, v5, v6, v7, v8, v9] (.ref a0 :: st) μ := g_aload (i := 4) (by decide +kernel) rfl
theorem i84_90N : m_G 84 90 [v0, v1, v2, v3, .null, v5, v6, v7, v8, v9] st μ = m_G 84 92 [v0, v1, v2, v3, .null, v5, v6, v7, v8, v9] (.null :: st) μ := g_aloadN (i := 4) (by decide +kernel) rfl
theorem i84_92 : m_G 84 92 [v0, v1, v2, v3, v4, .int x0, v6, v7, v8, v9] st μ = m_G 84 94 [v0, v1, v2, v3, v4, .int x0, v6, v7, v8, v9] (.int x0 :: st) μ := g_iload (i := 5) (by decide +kernel) rfl
theorem i84_94 : m_G 84 94 [v0, v1, v2, v3, v4, v5, .ref a0, v7, v8, v9] st μ = m_G 84 96 [v0, v1, v2, v3, v4, v5, .ref a0, v7, v8, v9] (.ref a0 :: st) μ := g_aload (i := 6) (by decide +kernel) rfl
theorem i84_94N : m_G 84 94 [v0, v1, v2, v3, v4, v5, .null, v7, v8, v9] st μ = m_G 84 96 [v0, v1, v2, v3, v4, v5, .null, v7, v8, v9] (.null :: st) μ := g_aloadN (i := 6) (by decide +kernel) rfl
theorem i84_96 : m_G 84 96 [v0, v1, v2, v3, v4, v5, v6, .int x0, v8, v9] st μ = m_G 84 98 [v0, v1, v2, v3, v4, v5, v6, .int x0, v8, v9] (.int x0 :: st) μ := g_iload (i := 7) (by decide +kernel) rfl
theorem i84_98 (ho : m_oc μ a0 = some 1) : m_G 84 98 L (.int x3 :: .ref a3 :: .int x1 :: .ref a1 :: .ref a0 :: []) μ = b_c (m_D 8 [.ref a0, .ref a1, .int x1, .ref a3, .int x3] μ) 84 101 L [] := g_virt (i := 217) (n := 4) (a := a0) (c := 1) (l := [(1, 8)]) (by decide +kernel) (by decide +kernel) rfl rfl (x_call_ok (ws := [1, 1, 1, 1, 1]) (Nat.le_of_ble_eq_true rfl) rfl (by decide +kernel) rfl (by decide +kernel) rfl rfl) ho
theorem i84_98N (ho : m_oc μ a0 = some 1) : m_G 84 98 L (.int x3 :: .null :: .int x1 :: .ref a1 :: .ref a0 :: []) μ = b_c (m_D 8 [.ref a0, .ref a1, .int x1, .null, .int x3] μ) 84 101 L [] := g_virt (i := 217) (n := 4) (a := a0) (c := 1) (l := [(1, 8)]) (by decide +kernel) (by decide +kernel) rfl rfl (x_call_ok (ws := [1, 1, 1, 1, 1]) (Nat.le_of_ble_eq_true rfl) rfl (by decide +kernel) rfl (by decide +kernel) rfl rfl) ho
theorem i84_101 : m_G 84 101 L (.int x0 :: st) μ = if x0 = 0 then m_G 84 104 L st μ else m_G 84 113 L st μ := g_ifne (off := 12) (by decide +kernel) (by decide)
theorem i84_104 : m_G 84 104 [v0, v1, v2, v3, v4, v5, v6, v7, .int x0, v9] st μ = m_G 84 106 [v0, v1, v2, v3, v4, v5, v6, v7, .int x0, v9] (.int x0 :: st) μ := g_iload (i := 8) (by decide +kernel) rfl
theorem i84_106 : m_G 84 106 L st μ = m_G 84 107 L (.int 1 :: st) μ := g_iconst (n := 1) (by decide +kernel) (by decide)
theorem i84_107 : m_G 84 107 [v0, v1, v2, v3, v4, v5, v6, v7, v8, .int x0] st μ = m_G 84 109 [v0, v1, v2, v3, v4, v5, v6, v7, v8, .int x0] (.int x0 :: st) μ := g_iload (i := 9) (by decide +kernel) rfl
theorem i84_109 : m_G 84 109 L (.int x1 :: .int x0 :: st) μ = m_G 84 110 L (.int (x0 <<< (x1 &&& 31)) :: st) μ := g_ishl (by decide +kernel)
theorem i84_110 : m_G 84 110 L (.int x1 :: .int x0 :: st) μ = m_G 84 111 L (.int (x0 ||| x1) :: st) μ := g_ior (by decide +kernel)
theorem i84_111 : m_G 84 111 [v0, v1, v2, v3, v4, v5, v6, v7, v8, v9] (.int x0 :: st) μ = m_G 84 113 [v0, v1, v2, v3, v4, v5, v6, v7, .int x0, v9] st μ := g_istore (i := 8) (by decide +kernel) (Nat.le_of_ble_eq_true rfl) rfl
theorem i84_113 : m_G 84 113 [v0, v1, v2, v3, v4, v5, v6, v7, v8, .int x0] st μ = m_G 84 116 [v0, v1, v2, v3, v4, v5, v6, v7, v8, .int (x0 + 1)] st μ := g_iinc (i := 9) (n := 1) (by decide +kernel) rfl (by decide) rfl
theorem i84_116 : m_G 84 116 L st μ = m_G 84 74 L st μ := g_goto (off := -42) (by decide +kernel) (by decide)
theorem i84_119 : m_G 84 119 [v0, v1, v2, v3, v4, v5, v6, v7, .int x0, v9] st μ = m_G 84 121 [v0, v1, v2, v3, v4, v5, v6, v7, .int x0, v9] (.int x0 :: st) μ := g_iload (i := 8) (by decide +kernel) rfl
theorem i84_121 : m_G 84 121 L st μ = m_G 84 122 L (.int 2 :: st) μ := g_iconst (n := 2) (by decide +kernel) (by decide)
theorem i84_122 : m_G 84 122 L (.int x1 :: .int x0 :: st) μ = m_G 84 123 L (.int (x0 * x1) :: st) μ := g_imul (by decide +kernel)
theorem i84_123 : m_G 84 123 L [.int x0] μ = some (some (.int x0), μ) := g_ireti (by decide +kernel) (by decide)
theorem D84 : m_D 84 [.ref a0, .int x0, .int x1] μ = m_G 84 0 [.ref a0, .int x0, .int x1, m_d, m_d, m_d, m_d, m_d, m_d, m_d] [] μ := d_def (by decide) rfl
theorem i85_0 : m_G 85 0 [.ref a0, v1, v2, v3, v4, v5, v6, v7, v8] st μ = m_G 85 1 [.ref a0, v1, v2, v3, v4, v5, v6, v7, v8] (.ref a0 :: st) μ := g_aload_n (i := 0) (by decide +kernel) rfl
theorem i85_1 : m_G 85 1 [v0, .int x0, v2, v3, v4, v5, v6, v7, v8] st μ = m_G 85 2 [v0, .int x0, v2, v3, v4, v5, v6, v7, v8] (.int x0 :: st) μ := g_iload_n (i := 1) (by decide +kernel) rfl
theorem i85_2 (ho : m_oc μ a0 = some 8) : m_G 85 2 L (.int x0 :: .ref a0 :: []) μ = b_c (m_D 68 [.ref a0, .int x0] μ) 85 5 L [] := g_virt (i := 123) (n := 1) (a := a0) (c := 8) (l := [(8, 68)]) (by decide +kernel) (by decide +kernel) rfl rfl (x_call_ok (ws := [1, 1]) (Nat.le_of_ble_eq_true rfl) rfl (by decide +kernel) rfl (by decide +kernel) rfl rfl) ho
theorem i85_5 : m_G 85 5 [v0, v1, v2, v3, v4, v5, v6, v7, v8] (.ref a0 :: st) μ = m_G 85 7 [v0, v1, v2, v3, v4, .ref a0, v6, v7, v8] st μ := g_astore (i := 5) (by decide +kernel) (Nat.le_of_ble_eq_true rfl) rfl
theorem i85_5N : m_G 85 5 [v0, v1, v2, v3, v4, v5, v6, v7, v8] (.null :: st) μ = m_G 85 7 [v0, v1, v2, v3, v4, .null, v6, v7, v8] st μ := g_astoreN (i := 5) (by decide +kernel) (Nat.le_of_ble_eq_true rfl) rfl
theorem i85_7 : m_G 85 7 [.ref a0, v1, v2, v3, v4, v5, v6, v7, v8] st μ = m_G 85 8 [.ref a0, v1, v2, v3, v4, v5, v6, v7, v8] (.ref a0 :: st) μ := g_aload_n (i := 0) (by decide +kernel) rfl
theorem i85_8 : m_G 85 8 [v0, v1, .int x0, v3, v4, v5, v6, v7, v8] st μ = m_G 85 9 [v0, v1, .int x0, v3, v4, v5, v6, v7, v8] (.int x0 :: st) μ := g_iload_n (i := 2) (by decide +kernel) rfl
theorem i85_9 (ho : m_oc μ a0 = some 8) : m_G 85 9 L (.int x0 :: .ref a0 :: []) μ = b_c (m_D 67 [.ref a0, .int x0] μ) 85 12 L [] := g_virt (i := 130) (n := 1) (a := a0) (c := 8) (l := [(8, 67)]) (by decide +kernel) (by decide +kernel) rfl rfl (x_call_ok (ws := [1, 1]) (Nat.le_of_ble_eq_true rfl) rfl (by decide +kernel) rfl (by decide +kernel) rfl rfl) ho
theorem i85_12 : m_G 85 12 [v0, v1, v2, v3, v4, v5, v6, v7, v8] (.ref a0 :: st) μ = m_G 85 14 [v0, v1, v2, v3, v4, v5, .ref a0, v7, v8] st μ := g_astore (i := 6) (by decide +kernel) (Nat.le_of_ble_eq_true rfl) rfl
theorem i85_12N : m_G 85 12 [v0, v1, v2, v3, v4, v5, v6, v7, v8] (.null :: st) μ = m_G 85 14 [v0, v1, v2, v3, v4, v5, .null, v7, v8] st μ := g_astoreN (i := 6) (by decide +kernel) (Nat.le_of_ble_eq_true rfl) rfl
theorem i85_14 : m_G 85 14 [.ref a0, v1, v2, v3, v4, v5, v6, v7, v8] st μ = m_G 85 15 [.ref a0, v1, v2, v3, v4, v5, v6, v7, v8] (.ref a0 :: st) μ := g_aload_n (i := 0) (by decide +kernel) rfl
theorem i85_15 : m_G 85 15 [v0, v1, v2, .int x0, v4, v5, v6, v7, v8] st μ = m_G 85 16 [v0, v1, v2, .int x0, v4, v5, v6, v7, v8] (.int x0 :: st) μ := g_iload_n (i := 3) (by decide +kernel) rfl
theorem i85_16 (ho : m_oc μ a0 = some 8) : m_G 85 16 L (.int x0 :: .ref a0 :: []) μ = b_c (m_D 67 [.ref a0, .int x0] μ) 85 19 L [] := g_virt (i := 130) (n := 1) (a := a0) (c := 8) (l := [(8, 67)]) (by decide +kernel) (by decide +kernel) rfl rfl (x_call_ok (ws := [1, 1]) (Nat.le_of_ble_eq_true rfl) rfl (by decide +kernel) rfl (by decide +kernel) rfl rfl) ho
theorem i85_19 : m_G 85 19 [v0, v1, v2, v3, v4, v5, v6, v7, v8] (.ref a0 :: st) μ = m_G 85 21 [v0, v1, v2, v3, v4, v5, v6, .ref a0, v8] st μ := g_astore (i := 7) (by decide +kernel) (Nat.le_of_ble_eq_true rfl) rfl
theorem i85_19N : m_G 85 19 [v0, v1, v2, v3, v4, v5, v6, v7, v8] (.null :: st) μ = m_G 85 21 [v0, v1, v2, v3, v4, v5, v6, .null, v8] st μ := g_astoreN (i := 7) (by decide +kernel) (Nat.le_of_ble_eq_true rfl) rfl
theorem i85_21 : m_G 85 21 [v0, v1, v2, v3, v4, .ref a0, v6, v7, v8] st μ = m_G 85 23 [v0, v1, v2, v3, v4, .ref a0, v6, v7, v8] (.ref a0 :: st) μ := g_aload (i := 5) (by decide +kernel) rfl
theorem i85_21N : m_G 85 21 [v0, v1, v2, v3, v4, .null, v6, v7, v8] st μ = m_G 85 23 [v0, v1, v2, v3, v4, .null, v6, v7, v8] (.null :: st) μ := g_aloadN (i := 5) (by decide +kernel) rfl
theorem i85_23 : m_G 85 23 L (.ref a0 :: st) μ = m_G 85 26 L st μ := g_ifnull (off := 18) (by decide +kernel)
theorem i85_23N : m_G 85 23 L (.null :: st) μ = m_G 85 41 L st μ := g_ifnullN (off := 18) (by decide +kernel) (by decide)
theorem i85_26 : m_G 85 26 [v0, v1, v2, v3, v4, v5, .ref a0, v7, v8] st μ = m_G 85 28 [v0, v1, v2, v3, v4, v5, .ref a0, v7, v8] (.ref a0 :: st) μ := g_aload (i := 6) (by decide +kernel) rfl
theorem i85_26N : m_G 85 26 [v0, v1, v2, v3, v4, v5, .null, v7, v8] st μ = m_G 85 28 [v0, v1, v2, v3, v4, v5, .null, v7, v8] (.null :: st) μ := g_aloadN (i := 6) (by decide +kernel) rfl
theorem i85_28 : m_G 85 28 L (.ref a0 :: st) μ = m_G 85 31 L st μ := g_ifnull (off := 13) (by decide +kernel)
theorem i85_28N : m_G 85 28 L (.null :: st) μ = m_G 85 41 L st μ := g_ifnullN (off := 13) (by decide +kernel) (by decide)
theorem i85_31 : m_G 85 31 [v0, v1, v2, v3, v4, v5, v6, .ref a0, v8] st μ = m_G 85 33 [v0, v1, v2, v3, v4, v5, v6, .ref a0, v8] (.ref a0 :: st) μ := g_aload (i := 7) (by decide +kernel) rfl
theorem i85_31N : m_G 85 31 [v0, v1, v2, v3, v4, v5, v6, .null, v8] st μ = m_G 85 33 [v0, v1, v2, v3, v4, v5, v6, .null, v8] (.null :: st) μ := g_aloadN (i := 7) (by decide +kernel) rfl
theorem i85_33 : m_G 85 33 L (.ref a0 :: st) μ = m_G 85 36 L st μ := g_ifnull (off := 8) (by decide +kernel)
theorem i85_33N : m_G 85 33 L (.null :: st) μ = m_G 85 41 L st μ := g_ifnullN (off := 8) (by decide +kernel) (by decide)
theorem i85_36 : m_G 85 36 [v0, v1, .int x0, v3, v4, v5, v6, v7, v8] st μ = m_G 85 37 [v0, v1, .int x0, v3, v4, v5, v6, v7, v8] (.int x0 :: st) μ := g_iload_n (i := 2) (by decide +kernel) rfl
theorem i85_37 : m_G 85 37 [v0, v1, v2, .int x0, v4, v5, v6, v7, v8] st μ = m_G 85 38 [v0, v1, v2, .int x0, v4, v5, v6, v7, v8] (.int x0 :: st) μ := g_iload_n (i := 3) (by decide +kernel) rfl
theorem i85_38 : m_G 85 38 L (.int x1 :: .int x0 :: st) μ = if x0 = x1 then m_G 85 41 L st μ else m_G 85 44 L st μ := g_cmpne (off := 6) (by decide +kernel) (by decide)
theorem i85_41 : m_G 85 41 L st μ = m_G 85 43 L (.int (-101) :: st) μ := g_bipush (n := -101) (by decide +kernel) (by decide)
theorem i85_43 : m_G 85 43 L [.int x0] μ = some (some (.int x0), μ) := g_ireti (by decide +kernel) (by decide)
theorem i85_44 : m_G 85 44 [v0, v1, v2, v3, .int x0, v5, v6, v7, v8] st μ = m_G 85 46 [v0, v1, v2, v3, .int x0, v5, v6, v7, v8] (.int x0 :: st) μ := g_iload (i := 4) (by decide +kernel) rfl
theorem i85_46 : m_G 85 46 L (.int x0 :: st) μ = if x0 < 0 then m_G 85 69 L st μ else m_G 85 49 L st μ := g_iflt (off := 23) (by decide +kernel) (by decide)
theorem i85_49 : m_G 85 49 [v0, v1, v2, v3, .int x0, v5, v6, v7, v8] st μ = m_G 85 51 [v0, v1, v2, v3, .int x0, v5, v6, v7, v8] (.int x0 :: st) μ := g_iload (i := 4) (by decide +kernel) rfl
theorem i85_51 : m_G 85 51 L st μ = m_G 85 53 L (.int 12 :: st) μ := g_bipush (n := 12) (by decide +kernel) (by decide)
theorem i85_53 : m_G 85 53 L (.int x1 :: .int x0 :: st) μ = if x1 < x0 then m_G 85 69 L st μ else m_G 85 56 L st μ := g_cmpgt (off := 16) (by decide +kernel) (by decide)
theorem i85_56 : m_G 85 56 [v0, v1, v2, v3, .int x0, v5, v6, v7, v8] st μ = m_G 85 58 [v0, v1, v2, v3, .int x0, v5, v6, v7, v8] (.int x0 :: st) μ := g_iload (i := 4) (by decide +kernel) rfl
theorem i85_58 : m_G 85 58 L st μ = m_G 85 59 L (.int 3 :: st) μ := g_iconst (n := 3) (by decide +kernel) (by decide)
theorem i85_59 : m_G 85 59 L (.int x1 :: .int x0 :: st) μ = if x1 < x0 then m_G 85 62 L st μ else m_G 85 72 L st μ := g_cmple (off := 13) (by decide +kernel) (by decide)
theorem i85_62 : m_G 85 62 [v0, v1, v2, v3, .int x0, v5, v6, v7, v8] st μ = m_G 85 64 [v0, v1, v2, v3, .int x0, v5, v6, v7, v8] (.int x0 :: st) μ := g_iload (i := 4) (by decide +kernel) rfl
theorem i85_64 : m_G 85 64 L st μ = m_G 85 66 L (.int 10 :: st) μ := g_bipush (n := 10) (by decide +kernel) (by decide)
theorem i85_66 : m_G 85 66 L (.int x1 :: .int x0 :: st) μ = if x0 < x1 then m_G 85 69 L st μ else m_G 85 72 L st μ := g_cmpge (off := 6) (by decide +kernel) (by decide)
theorem i85_69 : m_G 85 69 L st μ = m_G 85 71 L (.int (-102) :: st) μ := g_bipush (n := -102) (by decide +kernel) (by decide)
theorem i85_71 : m_G 85 71 L [.int x0] μ = some (some (.int x0), μ) := g_ireti (by decide +kernel) (by decide)
theorem i85_72 : m_G 85 72 [v0, v1, v2, v3, v4, .ref a0, v6, v7, v8] st μ = m_G 85 74 [v0, v1, v2, v3, v4, .ref a0, v6, v7, v8] (.ref a0 :: st) μ := g_aload (i := 5) (by decide +kernel) rfl
theorem i85_72N : m_G 85 72 [v0, v1, v2, v3, v4, .null, v6, v7, v8] st μ = m_G 85 74 [v0, v1, v2, v3, v4, .null, v6, v7, v8] (.null :: st) μ := g_aloadN (i := 5) (by decide +kernel) rfl
theorem i85_74 : m_G 85 74 [v0, v1, v2, v3, v4, v5, .ref a0, v7, v8] st μ = m_G 85 76 [v0, v1, v2, v3, v4, v5, .ref a0, v7, v8] (.ref a0 :: st) μ := g_aload (i := 6) (by decide +kernel) rfl
theorem i85_74N : m_G 85 74 [v0, v1, v2, v3, v4, v5, .null, v7, v8] st μ = m_G 85 76 [v0, v1, v2, v3, v4, v5, .null, v7, v8] (.null :: st) μ := g_aloadN (i := 6) (by decide +kernel) rfl
theorem i85_76 : m_G 85 76 L st μ = m_G 85 77 L (.int 1 :: st) μ := g_iconst (n := 1) (by decide +kernel) (by decide)
theorem i85_77 (ho : m_oc μ a0 = some 6) : m_G 85 77 L (.int x1 :: .ref a1 :: .ref a0 :: []) μ = b_c (m_D 49 [.ref a0, .ref a1, .int x1] μ) 85 80 L [] := g_virt (i := 158) (n := 2) (a := a0) (c := 6) (l := [(6, 49)]) (by decide +kernel) (by decide +kernel) rfl rfl (x_call_ok (ws := [1, 1, 1]) (Nat.le_of_ble_eq_true rfl) rfl (by decide +kernel) rfl (by decide +kernel) rfl rfl) ho
theorem i85_80 : m_G 85 80 [v0, v1, v2, v3, v4, v5, v6, v7, v8] (.int x0 :: st) μ = m_G 85 82 [v0, v1, v2, v3, v4, v5, v6, v7, .int x0] st μ := g_istore (i := 8) (by decide +kernel) (Nat.le_of_ble_eq_true rfl) rfl
theorem i85_82 : m_G 85 82 [v0, v1, v2, v3, v4, v5, v6, v7, .int x0] st μ = m_G 85 84 [v0, v1, v2, v3, v4, v5, v6, v7, .int x0] (.int x0 :: st) μ := g_iload (i := 8) (by decide +kernel) rfl
theorem i85_84 : m_G 85 84 [v0, v1, v2, v3, v4, v5, .ref a0, v7, v8] st μ = m_G 85 86 [v0, v1, v2, v3, v4, v5, .ref a0, v7, v8] (.ref a0 :: st) μ := g_aload (i := 6) (by decide +kernel) rfl
theorem i85_84N : m_G 85 84 [v0, v1, v2, v3, v4, v5, .null, v7, v8] st μ = m_G 85 86 [v0, v1, v2, v3, v4, v5, .null, v7, v8] (.null :: st) μ := g_aloadN (i := 6) (by decide +kernel) rfl
theorem i85_86 : m_G 85 86 L (.ref a0 :: st) μ = b_v (m_gf μ a0 3 9) 85 89 L st μ := g_getf (i := 221) (by decide +kernel) (by decide +kernel)
theorem i85_89 : m_G 85 89 L (.int x1 :: .int x0 :: st) μ = m_G 85 90 L (.int (x0 &&& x1) :: st) μ := g_iand (by decide +kernel)
theorem i85_90 : m_G 85 90 L (.int x0 :: st) μ = if x0 = 0 then m_G 85 93 L st μ else m_G 85 96 L st μ := g_ifne (off := 6) (by decide +kernel) (by decide)
theorem i85_93 : m_G 85 93 L st μ = m_G 85 95 L (.int (-103) :: st) μ := g_bipush (n := -103) (by decide +kernel) (by decide)
theorem i85_95 : m_G 85 95 L [.int x0] μ = some (some (.int x0), μ) := g_ireti (by decide +kernel) (by decide)
theorem i85_96 : m_G 85 96 [.ref a0, v1, v2, v3, v4, v5, v6, v7, v8] st μ = m_G 85 97 [.ref a0, v1, v2, v3, v4, v5, v6, v7, v8] (.ref a0 :: st) μ := g_aload_n (i := 0) (by decide +kernel) rfl
theorem i85_97 : m_G 85 97 L (.ref a0 :: st) μ = b_v (m_gf μ a0 8 12) 85 100 L st μ := g_getf (i := 55) (by decide +kernel) (by decide +kernel)
theorem i85_100 : m_G 85 100 [v0, v1, v2, v3, v4, v5, v6, .ref a0, v8] st μ = m_G 85 102 [v0, v1, v2, v3, v4, v5, v6, .ref a0, v8] (.ref a0 :: st) μ := g_aload (i := 7) (by decide +kernel) rfl
theorem i85_100N : m_G 85 100 [v0, v1, v2, v3, v4, v5, v6, .null, v8] st μ = m_G 85 102 [v0, v1, v2, v3, v4, v5, v6, .null, v8] (.null :: st) μ := g_aloadN (i := 7) (by decide +kernel) rfl
theorem i85_102 : m_G 85 102 [v0, v1, v2, v3, v4, v5, v6, .ref a0, v8] st μ = m_G 85 104 [v0, v1, v2, v3, v4, v5, v6, .ref a0, v8] (.ref a0 :: st) μ := g_aload (i := 7) (by decide +kernel) rfl
theorem i85_102N : m_G 85 102 [v0, v1, v2, v3, v4, v5, v6, .null, v8] st μ = m_G 85 104 [v0, v1, v2, v3, v4, v5, v6, .null, v8] (.null :: st) μ := g_aloadN (i := 7) (by decide +kernel) rfl
theorem i85_104 : m_G 85 104 [v0, v1, v2, v3, v4, v5, v6, .ref a0, v8] st μ = m_G 85 106 [v0, v1, v2, v3, v4, v5, v6, .ref a0, v8] (.ref a0 :: st) μ := g_aload (i := 7) (by decide +kernel) rfl
theorem i85_104N : m_G 85 104 [v0, v1, v2, v3, v4, v5, v6, .null, v8] st μ = m_G 85 106 [v0, v1, v2, v3, v4, v5, v6, .null, v8] (.null :: st) μ := g_aloadN (i := 7) (by decide +kernel) rfl
theorem i85_106 : m_G 85 106 L (.ref a0 :: st) μ = b_v (m_gf μ a0 3 9) 85 109 L st μ := g_getf (i := 221) (by decide +kernel) (by decide +kernel)
theorem i85_109 : m_G 85 109 [v0, v1, v2, v3, v4, v5, .ref a0, v7, v8] st μ = m_G 85 111 [v0, v1, v2, v3, v4, v5, .ref a0, v7, v8] (.ref a0 :: st) μ := g_aload (i := 6) (by decide +kernel) rfl
theorem i85_109N : m_G 85 109 [v0, v1, v2, v3, v4, v5, .null, v7, v8] st μ = m_G 85 111 [v0, v1, v2, v3, v4, v5, .null, v7, v8] (.null :: st) μ := g_aloadN (i := 6) (by decide +kernel) rfl
theorem i85_111 : m_G 85 111 [v0, v1, v2, v3, v4, v5, v6, v7, .int x0] st μ = m_G 85 113 [v0, v1, v2, v3, v4, v5, v6, v7, .int x0] (.int x0 :: st) μ := g_iload (i := 8) (by decide +kernel) rfl
theorem i85_113 (ho : m_oc μ a0 = some 3) : m_G 85 113 L (.int x2 :: .ref a2 :: .int x0 :: .ref a0 :: [w0, w1]) μ = b_c (m_D 29 [.ref a0, .int x0, .ref a2, .int x2] μ) 85 116 L [w0, w1] := g_virt (i := 224) (n := 3) (a := a0) (c := 3) (l := [(3, 29)]) (by decide +kernel) (by decide +kernel) rfl rfl (x_call_ok (ws := [1, 1, 1, 1]) (Nat.le_of_ble_eq_true rfl) rfl (by decide +kernel) rfl (by decide +kernel) rfl rfl) ho
theorem i85_116 (ho : m_oc μ a0 = some 2) : m_G 85 116 L (.int x1 :: .ref a1 :: .ref a0 :: []) μ = b_c (m_D 13 [.ref a0, .ref a1, .int x1] μ) 85 119 L [] := g_virt (i := 228) (n := 2) (a := a0) (c := 2) (l := [(2, 13)]) (by decide +kernel) (by decide +kernel) rfl rfl (x_call_ok (ws := [1, 1, 1]) (Nat.le_of_ble_eq_true rfl) rfl (by decide +kernel) rfl (by decide +kernel) rfl rfl) ho
theorem i85_119 : m_G 85 119 [v0, v1, v2, v3, .int x0, v5, v6, v7, v8] st μ = m_G 85 121 [v0, v1, v2, v3, .int x0, v5, v6, v7, v8] (.int x0 :: st) μ := g_iload (i := 4) (by decide +kernel) rfl
theorem i85_121_0 : m_G 85 121 L (.int 0 :: st) μ = m_G 85 152 L st μ := g_tab (dd := 74) (lo := 0) (hi := 3) (offs := #[31, 39, 50, 66]) (len := 31) (off := 31) (by decide +kernel) (by decide) (by decide) (by decide)
theorem i85_121_1 : m_G 85 121 L (.int 1 :: st) μ = m_G 85 160 L st μ := g_tab (dd := 74) (lo := 0) (hi := 3) (offs := #[31, 39, 50, 66]) (len := 31) (off := 39) (by decide +kernel) (by decide) (by decide) (by decide)
theorem i85_121_2 : m_G 85 121 L (.int 2 :: st) μ = m_G 85 171 L st μ := g_tab (dd := 74) (lo := 0) (hi := 3) (offs := #[31, 39, 50, 66]) (len := 31) (off := 50) (by decide +kernel) (by decide) (by decide) (by decide)
theorem i85_121_3 : m_G 85 121 L (.int 3 :: st) μ = m_G 85 187 L st μ := g_tab (dd := 74) (lo := 0) (hi := 3) (offs := #[31, 39, 50, 66]) (len := 31) (off := 66) (by decide +kernel) (by decide) (by decide) (by decide)
theorem i85_121_d (h : x0.toInt < 0 ∨ 3 < x0.toInt) : m_G 85 121 L (.int x0 :: st) μ = m_G 85 195 L st μ := g_tabO (dd := 74) (lo := 0) (hi := 3) (offs := #[31, 39, 50, 66]) (len := 31) (by decide +kernel) h (by decide)
theorem i85_152 : m_G 85 152 [.ref a0, v1, v2, v3, v4, v5, v6, v7, v8] st μ = m_G 85 153 [.ref a0, v1, v2, v3, v4, v5, v6, v7, v8] (.ref a0 :: st) μ := g_aload_n (i := 0) (by decide +kernel) rfl
theorem i85_153 : m_G 85 153 L (.ref a0 :: st) μ = b_v (m_gf μ a0 8 12) 85 156 L st μ := g_getf (i := 55) (by decide +kernel) (by decide +kernel)
theorem i85_156 : m_G 85 156 L (.ref a0 :: st) μ = b_v (m_gf μ a0 2 1) 85 159 L st μ := g_getf (i := 231) (by decide +kernel) (by decide +kernel)
theorem i85_159 : m_G 85 159 L [.int x0] μ = some (some (.int x0), μ) := g_ireti (by decide +kernel) (by decide)
theorem i85_160 : m_G 85 160 [.ref a0, v1, v2, v3, v4, v5, v6, v7, v8] st μ = m_G 85 161 [.ref a0, v1, v2, v3, v4, v5, v6, v7, v8] (.ref a0 :: st) μ := g_aload_n (i := 0) (by decide +kernel) rfl
theorem i85_161 : m_G 85 161 L (.ref a0 :: st) μ = b_v (m_gf μ a0 8 12) 85 164 L st μ := g_getf (i := 55) (by decide +kernel) (by decide +kernel)
theorem i85_164 : m_G 85 164 L (.ref a0 :: st) μ = b_v (m_gf μ a0 2 0) 85 167 L st μ := g_getf (i := 234) (by decide +kernel) (by decide +kernel)
theorem i85_167 : m_G 85 167 L (.int x0 :: []) μ = b_c (m_D 99 [.int x0] μ) 85 170 L [] := g_stat (i := 185) (n := 1) (by decide +kernel) (by decide +kernel) (by decide) (x_call_ok (ws := [1]) (Nat.le_of_ble_eq_true rfl) rfl (by decide +kernel) rfl (by decide +kernel) rfl rfl)
theorem i85_170 : m_G 85 170 L [.int x0] μ = some (some (.int x0), μ) := g_ireti (by decide +kernel) (by decide)
theorem i85_171 : m_G 85 171 [.ref a0, v1, v2, v3, v4, v5, v6, v7, v8] st μ = m_G 85 172 [.ref a0, v1, v2, v3, v4, v5, v6, v7, v8] (.ref a0 :: st) μ := g_aload_n (i := 0) (by decide +kernel) rfl
theorem i85_172 : m_G 85 172 L (.ref a0 :: st) μ = b_v (m_gf μ a0 8 12) 85 175 L st μ := g_getf (i := 55) (by decide +kernel) (by decide +kernel)
theorem i85_175 : m_G 85 175 L (.ref a0 :: st) μ = b_v (m_gf μ a0 2 3) 85 178 L st μ := g_getf (i := 237) (by decide +kernel) (by decide +kernel)
theorem i85_178 : m_G 85 178 L (.int x0 :: st) μ = if x0 = 0 then m_G 85 185 L st μ else m_G 85 181 L st μ := g_ifeq (off := 7) (by decide +kernel) (by decide)
theorem i85_181 : m_G 85 181 L st μ = m_G 85 182 L (.int 1 :: st) μ := g_iconst (n := 1) (by decide +kernel) (by decide)
theorem i85_182 : m_G 85 182 L st μ = m_G 85 186 L st μ := g_goto (off := 4) (by decide +kernel) (by decide)
theorem i85_185 : m_G 85 185 L st μ = m_G 85 186 L (.int 0 :: st) μ := g_iconst (n := 0) (by decide +kernel) (by decide)
theorem i85_186 : m_G 85 186 L [.int x0] μ = some (some (.int x0), μ) := g_ireti (by decide +kernel) (by decide)
theorem i85_187 : m_G 85 187 [.ref a0, v1, v2, v3, v4, v5, v6, v7, v8] st μ = m_G 85 188 [.ref a0, v1, v2, v3, v4, v5, v6, v7, v8] (.ref a0 :: st) μ := g_aload_n (i := 0) (by decide +kernel) rfl
theorem i85_188 : m_G 85 188 L (.ref a0 :: st) μ = b_v (m_gf μ a0 8 12) 85 191 L st μ := g_getf (i := 55) (by decide +kernel) (by decide +kernel)
theorem i85_191 : m_G 85 191 L (.ref a0 :: st) μ = b_v (m_gf μ a0 2 2) 85 194 L st μ := g_getf (i := 240) (by decide +kernel) (by decide +kernel)
theorem i85_194 : m_G 85 194 L [.int x0] μ = some (some (.int x0), μ) := g_ireti (by decide +kernel) (by decide)
theorem i85_195 : m_G 85 195 [.ref a0, v1, v2, v3, v4, v5, v6, v7, v8] st μ = m_G 85 196 [.ref a0, v1, v2, v3, v4, v5, v6, v7, v8] (.ref a0 :: st) μ := g_aload_n (i := 0) (by decide +kernel) rfl
theorem i85_196 : m_G 85 196 L (.ref a0 :: st) μ = b_v (m_gf μ a0 8 12) 85 199 L st μ := g_getf (i := 55) (by decide +kernel) (by decide +kernel)
theorem i85_199 : m_G 85 199 L (.ref a0 :: st) μ = b_v (m_gf μ a0 2 0) 85 202 L st μ := g_getf (i := 234) (by decide +kernel) (by decide +kernel)
theorem i85_202 : m_G 85 202 [v0, v1, v2, v3, .int x0, v5, v6, v7, v8] st μ = m_G 85 204 [v0, v1, v2, v3, .int x0, v5, v6, v7, v8] (.int x0 :: st) μ := g_iload (i := 4) (by decide +kernel) rfl
theorem i85_204 : m_G 85 204 L st μ = m_G 85 206 L (.int 10 :: st) μ := g_bipush (n := 10) (by decide +kernel) (by decide)
theorem i85_206 : m_G 85 206 L (.int x1 :: .int x0 :: st) μ = m_G 85 207 L (.int (x0 - x1) :: st) μ := g_isub (by decide +kernel)
theorem i85_207 : m_G 85 207 L (.int x1 :: .int x0 :: []) μ = b_c (m_D 100 [.int x0, .int x1] μ) 85 210 L [] := g_stat (i := 198) (n := 2) (by decide +kernel) (by decide +kernel) (by decide) (x_call_ok (ws := [1, 1]) (Nat.le_of_ble_eq_true rfl) rfl (by decide +kernel) rfl (by decide +kernel) rfl rfl)
theorem i85_210 : m_G 85 210 L [.int x0] μ = some (some (.int x0), μ) := g_ireti (by decide +kernel) (by decide)
theorem D85 : m_D 85 [.ref a0, .int x0, .int x1, .int x2, .int x3] μ = m_G 85 0 [.ref a0, .int x0, .int x1, .int x2, .int x3, m_d, m_d, m_d, m_d] [] μ := d_def (by decide) rfl
theorem i86_0 : m_G 86 0 [.ref a0, v1, v2, v3, v4] st μ = m_G 86 1 [.ref a0, v1, v2, v3, v4] (.ref a0 :: st) μ := g_aload_n (i := 0) (by decide +kernel) rfl
theorem i86_1 : m_G 86 1 [v0, .int x0, v2, v3, v4] st μ = m_G 86 2 [v0, .int x0, v2, v3, v4] (.int x0 :: st) μ := g_iload_n (i := 1) (by decide +kernel) rfl
theorem i86_2 (ho : m_oc μ a0 = some 8) : m_G 86 2 L (.int x0 :: .ref a0 :: []) μ = b_c (m_D 67 [.ref a0, .int x0] μ) 86 5 L [] := g_virt (i := 130) (n := 1) (a := a0) (c := 8) (l := [(8, 67)]) (by decide +kernel) (by decide +kernel) rfl rfl (x_call_ok (ws := [1, 1]) (Nat.le_of_ble_eq_true rfl) rfl (by decide +kernel) rfl (by decide +kernel) rfl rfl) ho
theorem i86_5 : m_G 86 5 [v0, v1, v2, v3, v4] (.ref a0 :: st) μ = m_G 86 6 [v0, v1, v2, .ref a0, v4] st μ := g_astore_n (i := 3) (by decide +kernel) (Nat.le_of_ble_eq_true rfl) rfl
theorem i86_5N : m_G 86 5 [v0, v1, v2, v3, v4] (.null :: st) μ = m_G 86 6 [v0, v1, v2, .null, v4] st μ := g_astore_nN (i := 3) (by decide +kernel) (Nat.le_of_ble_eq_true rfl) rfl
theorem i86_6 : m_G 86 6 [.ref a0, v1, v2, v3, v4] st μ = m_G 86 7 [.ref a0, v1, v2, v3, v4] (.ref a0 :: st) μ := g_aload_n (i := 0) (by decide +kernel) rfl
theorem i86_7 : m_G 86 7 [v0, v1, .int x0, v3, v4] st μ = m_G 86 8 [v0, v1, .int x0, v3, v4] (.int x0 :: st) μ := g_iload_n (i := 2) (by decide +kernel) rfl
theorem i86_8 (ho : m_oc μ a0 = some 8) : m_G 86 8 L (.int x0 :: .ref a0 :: []) μ = b_c (m_D 67 [.ref a0, .int x0] μ) 86 11 L [] := g_virt (i := 130) (n := 1) (a := a0) (c := 8) (l := [(8, 67)]) (by decide +kernel) (by decide +kernel) rfl rfl (x_call_ok (ws := [1, 1]) (Nat.le_of_ble_eq_true rfl) rfl (by decide +kernel) rfl (by decide +kernel) rfl rfl) ho
theorem i86_11 : m_G 86 11 [v0, v1, v2, v3, v4] (.ref a0 :: st) μ = m_G 86 13 [v0, v1, v2, v3, .ref a0] st μ := g_astore (i := 4) (by decide +kernel) (Nat.le_of_ble_eq_true rfl) rfl
theorem i86_11N : m_G 86 11 [v0, v1, v2, v3, v4] (.null :: st) μ = m_G 86 13 [v0, v1, v2, v3, .null] st μ := g_astoreN (i := 4) (by decide +kernel) (Nat.le_of_ble_eq_true rfl) rfl
theorem i86_13 : m_G 86 13 [v0, v1, v2, .ref a0, v4] st μ = m_G 86 14 [v0, v1, v2, .ref a0, v4] (.ref a0 :: st) μ := g_aload_n (i := 3) (by decide +kernel) rfl
theorem i86_13N : m_G 86 13 [v0, v1, v2, .null, v4] st μ = m_G 86 14 [v0, v1, v2, .null, v4] (.null :: st) μ := g_aload_nN (i := 3) (by decide +kernel) rfl
theorem i86_14 : m_G 86 14 L (.ref a0 :: st) μ = m_G 86 17 L st μ := g_ifnull (off := 8) (by decide +kernel)
theorem i86_14N : m_G 86 14 L (.null :: st) μ = m_G 86 22 L st μ := g_ifnullN (off := 8) (by decide +kernel) (by decide)
theorem i86_17 : m_G 86 17 [v0, v1, v2, v3, .ref a0] st μ = m_G 86 19 [v0, v1, v2, v3, .ref a0] (.ref a0 :: st) μ := g_aload (i := 4) (by decide +kernel) rfl
theorem i86_17N : m_G 86 17 [v0, v1, v2, v3, .null] st μ = m_G 86 19 [v0, v1, v2, v3, .null] (.null :: st) μ := g_aloadN (i := 4) (by decide +kernel) rfl
theorem i86_19 : m_G 86 19 L (.ref a0 :: st) μ = m_G 86 25 L st μ := g_ifnonnull (off := 6) (by decide +kernel) (by decide)
theorem i86_19N : m_G 86 19 L (.null :: st) μ = m_G 86 22 L st μ := g_ifnonnullN (off := 6) (by decide +kernel)
theorem i86_22 : m_G 86 22 L st μ = m_G 86 24 L (.int (-101) :: st) μ := g_bipush (n := -101) (by decide +kernel) (by decide)
theorem i86_24 : m_G 86 24 L [.int x0] μ = some (some (.int x0), μ) := g_ireti (by decide +kernel) (by decide)
theorem i86_25 : m_G 86 25 [.ref a0, v1, v2, v3, v4] st μ = m_G 86 26 [.ref a0, v1, v2, v3, v4] (.ref a0 :: st) μ := g_aload_n (i := 0) (by decide +kernel) rfl
theorem i86_26 : m_G 86 26 L (.ref a0 :: st) μ = b_v (m_gf μ a0 8 13) 86 29 L st μ := g_getf (i := 62) (by decide +kernel) (by decide +kernel)
theorem i86_29 : m_G 86 29 [v0, v1, v2, .ref a0, v4] st μ = m_G 86 30 [v0, v1, v2, .ref a0, v4] (.ref a0 :: st) μ := g_aload_n (i := 3) (by decide +kernel) rfl
theorem i86_29N : m_G 86 29 [v0, v1, v2, .null, v4] st μ = m_G 86 30 [v0, v1, v2, .null, v4] (.null :: st) μ := g_aload_nN (i := 3) (by decide +kernel) rfl
theorem i86_30 : m_G 86 30 [v0, v1, v2, v3, .ref a0] st μ = m_G 86 32 [v0, v1, v2, v3, .ref a0] (.ref a0 :: st) μ := g_aload (i := 4) (by decide +kernel) rfl
theorem i86_30N : m_G 86 30 [v0, v1, v2, v3, .null] st μ = m_G 86 32 [v0, v1, v2, v3, .null] (.null :: st) μ := g_aloadN (i := 4) (by decide +kernel) rfl
theorem i86_32 (ho : m_oc μ a0 = some 5) : m_G 86 32 L (.ref a2 :: .ref a1 :: .ref a0 :: []) μ = b_c (m_D 40 [.ref a0, .ref a1, .ref a2] μ) 86 35 L [] := g_virt (i := 243) (n := 2) (a := a0) (c := 5) (l := [(5, 40)]) (by decide +kernel) (by decide +kernel) rfl rfl (x_call_ok (ws := [1, 1, 1]) (Nat.le_of_ble_eq_true rfl) rfl (by decide +kernel) rfl (by decide +kernel) rfl rfl) ho
theorem i86_35 : m_G 86 35 L [.int x0] μ = some (some (.int x0), μ) := g_ireti (by decide +kernel) (by decide)
theorem D86 : m_D 86 [.ref a0, .int x0, .int x1] μ = m_G 86 0 [.ref a0, .int x0, .int x1, m_d, m_d] [] μ := d_def (by decide) rfl
theorem i87_0 : m_G 87 0 [.ref a0, v1, v2, v3, v4, v5, v6] st μ = m_G 87 1 [.ref a0, v1, v2, v3, v4, v5, v6] (.ref a0 :: st) μ := g_aload_n (i := 0) (by decide +kernel) rfl
theorem i87_1 : m_G 87 1 [v0, .int x0, v2, v3, v4, v5, v6] st μ = m_G 87 2 [v0, .int x0, v2, v3, v4, v5, v6] (.int x0 :: st) μ := g_iload_n (i := 1) (by decide +kernel) rfl
theorem i87_2 (ho : m_oc μ a0 = some 8) : m_G 87 2 L (.int x0 :: .ref a0 :: []) μ = b_c (m_D 67 [.ref a0, .int x0] μ) 87 5 L [] := g_virt (i := 130) (n := 1) (a := a0) (c := 8) (l := [(8, 67)]) (by decide +kernel) (by decide +kernel) rfl rfl (x_call_ok (ws := [1, 1]) (Nat.le_of_ble_eq_true rfl) rfl (by decide +kernel) rfl (by decide +kernel) rfl rfl) ho
theorem i87_5 : m_G 87 5 [v0, v1, v2, v3, v4, v5, v6] (.ref a0 :: st) μ = m_G 87 6 [v0, v1, .ref a0, v3, v4, v5, v6] st μ := g_astore_n (i := 2) (by decide +kernel) (Nat.le_of_ble_eq_true rfl) rfl
theorem i87_5N : m_G 87 5 [v0, v1, v2, v3, v4, v5, v6] (.null :: st) μ = m_G 87 6 [v0, v1, .null, v3, v4, v5, v6] st μ := g_astore_nN (i := 2) (by decide +kernel) (Nat.le_of_ble_eq_true rfl) rfl
theorem i87_6 : m_G 87 6 [v0, v1, .ref a0, v3, v4, v5, v6] st μ = m_G 87 7 [v0, v1, .ref a0, v3, v4, v5, v6] (.ref a0 :: st) μ := g_aload_n (i := 2) (by decide +kernel) rfl
theorem i87_6N : m_G 87 6 [v0, v1, .null, v3, v4, v5, v6] st μ = m_G 87 7 [v0, v1, .null, v3, v4, v5, v6] (.null :: st) μ := g_aload_nN (i := 2) (by decide +kernel) rfl
theorem i87_7 : m_G 87 7 L (.ref a0 :: st) μ = m_G 87 13 L st μ := g_ifnonnull (off := 6) (by decide +kernel) (by decide)
theorem i87_7N : m_G 87 7 L (.null :: st) μ = m_G 87 10 L st μ := g_ifnonnullN (off := 6) (by decide +kernel)
theorem i87_10 : m_G 87 10 L st μ = m_G 87 12 L (.int (-101) :: st) μ := g_bipush (n := -101) (by decide +kernel) (by decide)
theorem i87_12 : m_G 87 12 L [.int x0] μ = some (some (.int x0), μ) := g_ireti (by decide +kernel) (by decide)
theorem i87_13 : m_G 87 13 L st μ = m_G 87 14 L (.int (-1) :: st) μ := g_iconst (n := -1) (by decide +kernel) (by decide)
theorem i87_14 : m_G 87 14 [v0, v1, v2, v3, v4, v5, v6] (.int x0 :: st) μ = m_G 87 15 [v0, v1, v2, .int x0, v4, v5, v6] st μ := g_istore_n (i := 3) (by decide +kernel) (Nat.le_of_ble_eq_true rfl) rfl
theorem i87_15 : m_G 87 15 L st μ = m_G 87 16 L (.int (-1) :: st) μ := g_iconst (n := -1) (by decide +kernel) (by decide)
theorem i87_16 : m_G 87 16 [v0, v1, v2, v3, v4, v5, v6] (.int x0 :: st) μ = m_G 87 18 [v0, v1, v2, v3, .int x0, v5, v6] st μ := g_istore (i := 4) (by decide +kernel) (Nat.le_of_ble_eq_true rfl) rfl
theorem i87_18 : m_G 87 18 L st μ = m_G 87 19 L (.int 0 :: st) μ := g_iconst (n := 0) (by decide +kernel) (by decide)
theorem i87_19 : m_G 87 19 [v0, v1, v2, v3, v4, v5, v6] (.int x0 :: st) μ = m_G 87 21 [v0, v1, v2, v3, v4, .int x0, v6] st μ := g_istore (i := 5) (by decide +kernel) (Nat.le_of_ble_eq_true rfl) rfl
theorem i87_21 : m_G 87 21 [v0, v1, v2, v3, v4, .int x0, v6] st μ = m_G 87 23 [v0, v1, v2, v3, v4, .int x0, v6] (.int x0 :: st) μ := g_iload (i := 5) (by decide +kernel) rfl
theorem i87_23 : m_G 87 23 [.ref a0, v1, v2, v3, v4, v5, v6] st μ = m_G 87 24 [.ref a0, v1, v2, v3, v4, v5, v6] (.ref a0 :: st) μ := g_aload_n (i := 0) (by decide +kernel) rfl
theorem i87_24 : m_G 87 24 L (.ref a0 :: st) μ = b_v (m_gf μ a0 8 3) 87 27 L st μ := g_getf (i := 101) (by decide +kernel) (by decide +kernel)
theorem i87_27 : m_G 87 27 L (.int x1 :: .int x0 :: st) μ = if x0 < x1 then m_G 87 30 L st μ else m_G 87 73 L st μ := g_cmpge (off := 46) (by decide +kernel) (by decide)
theorem i87_30 : m_G 87 30 [v0, v1, v2, v3, v4, .int x0, v6] st μ = m_G 87 32 [v0, v1, v2, v3, v4, .int x0, v6] (.int x0 :: st) μ := g_iload (i := 5) (by decide +kernel) rfl
theorem i87_32 : m_G 87 32 [v0, .int x0, v2, v3, v4, v5, v6] st μ = m_G 87 33 [v0, .int x0, v2, v3, v4, v5, v6] (.int x0 :: st) μ := g_iload_n (i := 1) (by decide +kernel) rfl
theorem i87_33 : m_G 87 33 L (.int x1 :: .int x0 :: st) μ = if x0 = x1 then m_G 87 67 L st μ else m_G 87 36 L st μ := g_cmpeq (off := 34) (by decide +kernel) (by decide)
theorem i87_36 : m_G 87 36 [.ref a0, v1, v2, v3, v4, v5, v6] st μ = m_G 87 37 [.ref a0, v1, v2, v3, v4, v5, v6] (.ref a0 :: st) μ := g_aload_n (i := 0) (by decide +kernel) rfl
theorem i87_37 : m_G 87 37 L (.ref a0 :: st) μ = b_v (m_gf μ a0 8 13) 87 40 L st μ := g_getf (i := 62) (by decide +kernel) (by decide +kernel)
theorem i87_40 : m_G 87 40 [v0, v1, .ref a0, v3, v4, v5, v6] st μ = m_G 87 41 [v0, v1, .ref a0, v3, v4, v5, v6] (.ref a0 :: st) μ := g_aload_n (i := 2) (by decide +kernel) rfl
theorem i87_40N : m_G 87 40 [v0, v1, .null, v3, v4, v5, v6] st μ = m_G 87 41 [v0, v1, .null, v3, v4, v5, v6] (.null :: st) μ := g_aload_nN (i := 2) (by decide +kernel) rfl
theorem i87_41 : m_G 87 41 [.ref a0, v1, v2, v3, v4, v5, v6] st μ = m_G 87 42 [.ref a0, v1, v2, v3, v4, v5, v6] (.ref a0 :: st) μ := g_aload_n (i := 0) (by decide +kernel) rfl
theorem i87_42 : m_G 87 42 L (.ref a0 :: st) μ = b_v (m_gf μ a0 8 2) 87 45 L st μ := g_getf (i := 15) (by decide +kernel) (by decide +kernel)
theorem i87_45 : m_G 87 45 [v0, v1, v2, v3, v4, .int x0, v6] st μ = m_G 87 47 [v0, v1, v2, v3, v4, .int x0, v6] (.int x0 :: st) μ := g_iload (i := 5) (by decide +kernel) rfl
theorem i87_47 : m_G 87 47 L (.int x0 :: .ref a0 :: st) μ = b_r (m_gr μ a0 x0) 87 48 L st μ := g_aald (by decide +kernel)
theorem i87_48 (ho : m_oc μ a0 = some 5) : m_G 87 48 L (.ref a2 :: .ref a1 :: .ref a0 :: []) μ = b_c (m_D 40 [.ref a0, .ref a1, .ref a2] μ) 87 51 L [] := g_virt (i := 243) (n := 2) (a := a0) (c := 5) (l := [(5, 40)]) (by decide +kernel) (by decide +kernel) rfl rfl (x_call_ok (ws := [1, 1, 1]) (Nat.le_of_ble_eq_true rfl) rfl (by decide +kernel) rfl (by decide +kernel) rfl rfl) ho
theorem i87_51 : m_G 87 51 [v0, v1, v2, v3, v4, v5, v6] (.int x0 :: st) μ = m_G 87 53 [v0, v1, v2, v3, v4, v5, .int x0] st μ := g_istore (i := 6) (by decide +kernel) (Nat.le_of_ble_eq_true rfl) rfl
theorem i87_53 : m_G 87 53 [v0, v1, v2, v3, v4, v5, .int x0] st μ = m_G 87 55 [v0, v1, v2, v3, v4, v5, .int x0] (.int x0 :: st) μ := g_iload (i := 6) (by decide +kernel) rfl
theorem i87_55 : m_G 87 55 [v0, v1, v2, v3, .int x0, v5, v6] st μ = m_G 87 57 [v0, v1, v2, v3, .int x0, v5, v6] (.int x0 :: st) μ := g_iload (i := 4) (by decide +kernel) rfl
theorem i87_57 : m_G 87 57 L (.int x1 :: .int x0 :: st) μ = if x1 < x0 then m_G 87 60 L st μ else m_G 87 67 L st μ := g_cmple (off := 10) (by decide +kernel) (by decide)
theorem i87_60 : m_G 87 60 [v0, v1, v2, v3, v4, .int x0, v6] st μ = m_G 87 62 [v0, v1, v2, v3, v4, .int x0, v6] (.int x0 :: st) μ := g_iload (i := 5) (by decide +kernel) rfl
theorem i87_62 : m_G 87 62 [v0, v1, v2, v3, v4, v5, v6] (.int x0 :: st) μ = m_G 87 63 [v0, v1, v2, .int x0, v4, v5, v6] st μ := g_istore_n (i := 3) (by decide +kernel) (Nat.le_of_ble_eq_true rfl) rfl
theorem i87_63 : m_G 87 63 [v0, v1, v2, v3, v4, v5, .int x0] st μ = m_G 87 65 [v0, v1, v2, v3, v4, v5, .int x0] (.int x0 :: st) μ := g_iload (i := 6) (by decide +kernel) rfl
theorem i87_65 : m_G 87 65 [v0, v1, v2, v3, v4, v5, v6] (.int x0 :: st) μ = m_G 87 67 [v0, v1, v2, v3, .int x0, v5, v6] st μ := g_istore (i := 4) (by decide +kernel) (Nat.le_of_ble_eq_true rfl) rfl
theorem i87_67 : m_G 87 67 [v0, v1, v2, v3, v4, .int x0, v6] st μ = m_G 87 70 [v0, v1, v2, v3, v4, .int (x0 + 1), v6] st μ := g_iinc (i := 5) (n := 1) (by decide +kernel) rfl (by decide) rfl
theorem i87_70 : m_G 87 70 L st μ = m_G 87 21 L st μ := g_goto (off := -49) (by decide +kernel) (by decide)
theorem i87_73 : m_G 87 73 [v0, v1, v2, .int x0, v4, v5, v6] st μ = m_G 87 74 [v0, v1, v2, .int x0, v4, v5, v6] (.int x0 :: st) μ := g_iload_n (i := 3) (by decide +kernel) rfl
theorem i87_74 : m_G 87 74 L [.int x0] μ = some (some (.int x0), μ) := g_ireti (by decide +kernel) (by decide)
theorem D87 : m_D 87 [.ref a0, .int x0] μ = m_G 87 0 [.ref a0, .int x0, m_d, m_d, m_d, m_d, m_d] [] μ := d_def (by decide) rfl
theorem i88_0 : m_G 88 0 [.ref a0, v1, v2, v3, v4, v5, v6, v7, v8, v9, v10, v11, v12, v13, v14] st μ = m_G 88 1 [.ref a0, v1, v2, v3, v4, v5, v6, v7, v8, v9, v10, v11, v12, v13, v14] (.ref a0 :: st) μ := g_aload_n (i := 0) (by decide +kernel) rfl
theorem i88_1 : m_G 88 1 [v0, .int x0, v2, v3, v4, v5, v6, v7, v8, v9, v10, v11, v12, v13, v14] st μ = m_G 88 2 [v0, .int x0, v2, v3, v4, v5, v6, v7, v8, v9, v10, v11, v12, v13, v14] (.int x0 :: st) μ := g_iload_n (i := 1) (by decide +kernel) rfl
theorem i88_2 (ho : m_oc μ a0 = some 8) : m_G 88 2 L (.int x0 :: .ref a0 :: []) μ = b_c (m_D 68 [.ref a0, .int x0] μ) 88 5 L [] := g_virt (i := 123) (n := 1) (a := a0) (c := 8) (l := [(8, 68)]) (by decide +kernel) (by decide +kernel) rfl rfl (x_call_ok (ws := [1, 1]) (Nat.le_of_ble_eq_true rfl) rfl (by decide +kernel) rfl (by decide +kernel) rfl rfl) ho
theorem i88_5 : m_G 88 5 [v0, v1, v2, v3, v4, v5, v6, v7, v8, v9, v10, v11, v12, v13, v14] (.ref a0 :: st) μ = m_G 88 7 [v0, v1, v2, v3, v4, v5, v6, .ref a0, v8, v9, v10, v11, v12, v13, v14] st μ := g_astore (i := 7) (by decide +kernel) (Nat.le_of_ble_eq_true rfl) rfl
theorem i88_5N : m_G 88 5 [v0, v1, v2, v3, v4, v5, v6, v7, v8, v9, v10, v11, v12, v13, v14] (.null :: st) μ = m_G 88 7 [v0, v1, v2, v3, v4, v5, v6, .null, v8, v9, v10, v11, v12, v13, v14] st μ := g_astoreN (i := 7) (by decide +kernel) (Nat.le_of_ble_eq_true rfl) rfl
theorem i88_7 : m_G 88 7 [.ref a0, v1, v2, v3, v4, v5, v6, v7, v8, v9, v10, v11, v12, v13, v14] st μ = m_G 88 8 [.ref a0, v1, v2, v3, v4, v5, v6, v7, v8, v9, v10, v11, v12, v13, v14] (.ref a0 :: st) μ := g_aload_n (i := 0) (by decide +kernel) rfl
theorem i88_8 : m_G 88 8 [v0, v1, .int x0, v3, v4, v5, v6, v7, v8, v9, v10, v11, v12, v13, v14] st μ = m_G 88 9 [v0, v1, .int x0, v3, v4, v5, v6, v7, v8, v9, v10, v11, v12, v13, v14] (.int x0 :: st) μ := g_iload_n (i := 2) (by decide +kernel) rfl
theorem i88_9 (ho : m_oc μ a0 = some 8) : m_G 88 9 L (.int x0 :: .ref a0 :: []) μ = b_c (m_D 68 [.ref a0, .int x0] μ) 88 12 L [] := g_virt (i := 123) (n := 1) (a := a0) (c := 8) (l := [(8, 68)]) (by decide +kernel) (by decide +kernel) rfl rfl (x_call_ok (ws := [1, 1]) (Nat.le_of_ble_eq_true rfl) rfl (by decide +kernel) rfl (by decide +kernel) rfl rfl) ho
theorem i88_12 : m_G 88 12 [v0, v1, v2, v3, v4, v5, v6, v7, v8, v9, v10, v11, v12, v13, v14] (.ref a0 :: st) μ = m_G 88 14 [v0, v1, v2, v3, v4, v5, v6, v7, .ref a0, v9, v10, v11, v12, v13, v14] st μ := g_astore (i := 8) (by decide +kernel) (Nat.le_of_ble_eq_true rfl) rfl
theorem i88_12N : m_G 88 12 [v0, v1, v2, v3, v4, v5, v6, v7, v8, v9, v10, v11, v12, v13, v14] (.null :: st) μ = m_G 88 14 [v0, v1, v2, v3, v4, v5, v6, v7, .null, v9, v10, v11, v12, v13, v14] st μ := g_astoreN (i := 8) (by decide +kernel) (Nat.le_of_ble_eq_true rfl) rfl
theorem i88_14 : m_G 88 14 [.ref a0, v1, v2, v3, v4, v5, v6, v7, v8, v9, v10, v11, v12, v13, v14] st μ = m_G 88 15 [.ref a0, v1, v2, v3, v4, v5, v6, v7, v8, v9, v10, v11, v12, v13, v14] (.ref a0 :: st) μ := g_aload_n (i := 0) (by decide +kernel) rfl
theorem i88_15 : m_G 88 15 [v0, v1, v2, .int x0, v4, v5, v6, v7, v8, v9, v10, v11, v12, v13, v14] st μ = m_G 88 16 [v0, v1, v2, .int x0, v4, v5, v6, v7, v8, v9, v10, v11, v12, v13, v14] (.int x0 :: st) μ := g_iload_n (i := 3) (by decide +kernel) rfl
theorem i88_16 (ho : m_oc μ a0 = some 8) : m_G 88 16 L (.int x0 :: .ref a0 :: []) μ = b_c (m_D 68 [.ref a0, .int x0] μ) 88 19 L [] := g_virt (i := 123) (n := 1) (a := a0) (c := 8) (l := [(8, 68)]) (by decide +kernel) (by decide +kernel) rfl rfl (x_call_ok (ws := [1, 1]) (Nat.le_of_ble_eq_true rfl) rfl (by decide +kernel) rfl (by decide +kernel) rfl rfl) ho
theorem i88_19 : m_G 88 19 [v0, v1, v2, v3, v4, v5, v6, v7, v8, v9, v10, v11, v12, v13, v14] (.ref a0 :: st) μ = m_G 88 21 [v0, v1, v2, v3, v4, v5, v6, v7, v8, .ref a0, v10, v11, v12, v13, v14] st μ := g_astore (i := 9) (by decide +kernel) (Nat.le_of_ble_eq_true rfl) rfl
theorem i88_19N : m_G 88 19 [v0, v1, v2, v3, v4, v5, v6, v7, v8, v9, v10, v11, v12, v13, v14] (.null :: st) μ = m_G 88 21 [v0, v1, v2, v3, v4, v5, v6, v7, v8, .null, v10, v11, v12, v13, v14] st μ := g_astoreN (i := 9) (by decide +kernel) (Nat.le_of_ble_eq_true rfl) rfl
theorem i88_21 : m_G 88 21 [.ref a0, v1, v2, v3, v4, v5, v6, v7, v8, v9, v10, v11, v12, v13, v14] st μ = m_G 88 22 [.ref a0, v1, v2, v3, v4, v5, v6, v7, v8, v9, v10, v11, v12, v13, v14] (.ref a0 :: st) μ := g_aload_n (i := 0) (by decide +kernel) rfl
theorem i88_22 : m_G 88 22 [v0, v1, v2, v3, .int x0, v5, v6, v7, v8, v9, v10, v11, v12, v13, v14] st μ = m_G 88 24 [v0, v1, v2, v3, .int x0, v5, v6, v7, v8, v9, v10, v11, v12, v13, v14] (.int x0 :: st) μ := g_iload (i := 4) (by decide +kernel) rfl
theorem i88_24 (ho : m_oc μ a0 = some 8) : m_G 88 24 L (.int x0 :: .ref a0 :: []) μ = b_c (m_D 67 [.ref a0, .int x0] μ) 88 27 L [] := g_virt (i := 130) (n := 1) (a := a0) (c := 8) (l := [(8, 67)]) (by decide +kernel) (by decide +kernel) rfl rfl (x_call_ok (ws := [1, 1]) (Nat.le_of_ble_eq_true rfl) rfl (by decide +kernel) rfl (by decide +kernel) rfl rfl) ho
theorem i88_27 : m_G 88 27 [v0, v1, v2, v3, v4, v5, v6, v7, v8, v9, v10, v11, v12, v13, v14] (.ref a0 :: st) μ = m_G 88 29 [v0, v1, v2, v3, v4, v5, v6, v7, v8, v9, .ref a0, v11, v12, v13, v14] st μ := g_astore (i := 10) (by decide +kernel) (Nat.le_of_ble_eq_true rfl) rfl
theorem i88_27N : m_G 88 27 [v0, v1, v2, v3, v4, v5, v6, v7, v8, v9, v10, v11, v12, v13, v14] (.null :: st) μ = m_G 88 29 [v0, v1, v2, v3, v4, v5, v6, v7, v8, v9, .null, v11, v12, v13, v14] st μ := g_astoreN (i := 10) (by decide +kernel) (Nat.le_of_ble_eq_true rfl) rfl
theorem i88_29 : m_G 88 29 [.ref a0, v1, v2, v3, v4, v5, v6, v7, v8, v9, v10, v11, v12, v13, v14] st μ = m_G 88 30 [.ref a0, v1, v2, v3, v4, v5, v6, v7, v8, v9, v10, v11, v12, v13, v14] (.ref a0 :: st) μ := g_aload_n (i := 0) (by decide +kernel) rfl
theorem i88_30 : m_G 88 30 [v0, v1, v2, v3, v4, .int x0, v6, v7, v8, v9, v10, v11, v12, v13, v14] st μ = m_G 88 32 [v0, v1, v2, v3, v4, .int x0, v6, v7, v8, v9, v10, v11, v12, v13, v14] (.int x0 :: st) μ := g_iload (i := 5) (by decide +kernel) rfl
theorem i88_32 (ho : m_oc μ a0 = some 8) : m_G 88 32 L (.int x0 :: .ref a0 :: []) μ = b_c (m_D 67 [.ref a0, .int x0] μ) 88 35 L [] := g_virt (i := 130) (n := 1) (a := a0) (c := 8) (l := [(8, 67)]) (by decide +kernel) (by decide +kernel) rfl rfl (x_call_ok (ws := [1, 1]) (Nat.le_of_ble_eq_true rfl) rfl (by decide +kernel) rfl (by decide +kernel) rfl rfl) ho
theorem i88_35 : m_G 88 35 [v0, v1, v2, v3, v4, v5, v6, v7, v8, v9, v10, v11, v12, v13, v14] (.ref a0 :: st) μ = m_G 88 37 [v0, v1, v2, v3, v4, v5, v6, v7, v8, v9, v10, .ref a0, v12, v13, v14] st μ := g_astore (i := 11) (by decide +kernel) (Nat.le_of_ble_eq_true rfl) rfl
theorem i88_35N : m_G 88 35 [v0, v1, v2, v3, v4, v5, v6, v7, v8, v9, v10, v11, v12, v13, v14] (.null :: st) μ = m_G 88 37 [v0, v1, v2, v3, v4, v5, v6, v7, v8, v9, v10, .null, v12, v13, v14] st μ := g_astoreN (i := 11) (by decide +kernel) (Nat.le_of_ble_eq_true rfl) rfl
theorem i88_37 : m_G 88 37 [v0, v1, v2, v3, v4, v5, v6, .ref a0, v8, v9, v10, v11, v12, v13, v14] st μ = m_G 88 39 [v0, v1, v2, v3, v4, v5, v6, .ref a0, v8, v9, v10, v11, v12, v13, v14] (.ref a0 :: st) μ := g_aload (i := 7) (by decide +kernel) rfl
theorem i88_37N : m_G 88 37 [v0, v1, v2, v3, v4, v5, v6, .null, v8, v9, v10, v11, v12, v13, v14] st μ = m_G 88 39 [v0, v1, v2, v3, v4, v5, v6, .null, v8, v9, v10, v11, v12, v13, v14] (.null :: st) μ := g_aloadN (i := 7) (by decide +kernel) rfl
theorem i88_39 : m_G 88 39 L (.ref a0 :: st) μ = m_G 88 42 L st μ := g_ifnull (off := 23) (by decide +kernel)
theorem i88_39N : m_G 88 39 L (.null :: st) μ = m_G 88 62 L st μ := g_ifnullN (off := 23) (by decide +kernel) (by decide)
theorem i88_42 : m_G 88 42 [v0, v1, v2, v3, v4, v5, v6, v7, .ref a0, v9, v10, v11, v12, v13, v14] st μ = m_G 88 44 [v0, v1, v2, v3, v4, v5, v6, v7, .ref a0, v9, v10, v11, v12, v13, v14] (.ref a0 :: st) μ := g_aload (i := 8) (by decide +kernel) rfl
theorem i88_42N : m_G 88 42 [v0, v1, v2, v3, v4, v5, v6, v7, .null, v9, v10, v11, v12, v13, v14] st μ = m_G 88 44 [v0, v1, v2, v3, v4, v5, v6, v7, .null, v9, v10, v11, v12, v13, v14] (.null :: st) μ := g_aloadN (i := 8) (by decide +kernel) rfl
theorem i88_44 : m_G 88 44 L (.ref a0 :: st) μ = m_G 88 47 L st μ := g_ifnull (off := 18) (by decide +kernel)
theorem i88_44N : m_G 88 44 L (.null :: st) μ = m_G 88 62 L st μ := g_ifnullN (off := 18) (by decide +kernel) (by decide)
theorem i88_47 : m_G 88 47 [v0, v1, v2, v3, v4, v5, v6, v7, v8, .ref a0, v10, v11, v12, v13, v14] st μ = m_G 88 49 [v0, v1, v2, v3, v4, v5, v6, v7, v8, .ref a0, v10, v11, v12, v13, v14] (.ref a0 :: st) μ := g_aload (i := 9) (by decide +kernel) rfl
theorem i88_47N : m_G 88 47 [v0, v1, v2, v3, v4, v5, v6, v7, v8, .null, v10, v11, v12, v13, v14] st μ = m_G 88 49 [v0, v1, v2, v3, v4, v5, v6, v7, v8, .null, v10, v11, v12, v13, v14] (.null :: st) μ := g_aloadN (i := 9) (by decide +kernel) rfl
theorem i88_49 : m_G 88 49 L (.ref a0 :: st) μ = m_G 88 52 L st μ := g_ifnull (off := 13) (by decide +kernel)
theorem i88_49N : m_G 88 49 L (.null :: st) μ = m_G 88 62 L st μ := g_ifnullN (off := 13) (by decide +kernel) (by decide)
theorem i88_52 : m_G 88 52 [v0, v1, v2, v3, v4, v5, v6, v7, v8, v9, .ref a0, v11, v12, v13, v14] st μ = m_G 88 54 [v0, v1, v2, v3, v4, v5, v6, v7, v8, v9, .ref a0, v11, v12, v13, v14] (.ref a0 :: st) μ := g_aload (i := 10) (by decide +kernel) rfl
theorem i88_52N : m_G 88 52 [v0, v1, v2, v3, v4, v5, v6, v7, v8, v9, .null, v11, v12, v13, v14] st μ = m_G 88 54 [v0, v1, v2, v3, v4, v5, v6, v7, v8, v9, .null, v11, v12, v13, v14] (.null :: st) μ := g_aloadN (i := 10) (by decide +kernel) rfl
theorem i88_54 : m_G 88 54 L (.ref a0 :: st) μ = m_G 88 57 L st μ := g_ifnull (off := 8) (by decide +kernel)
theorem i88_54N : m_G 88 54 L (.null :: st) μ = m_G 88 62 L st μ := g_ifnullN (off := 8) (by decide +kernel) (by decide)
theorem i88_57 : m_G 88 57 [v0, v1, v2, v3, v4, v5, v6, v7, v8, v9, v10, .ref a0, v12, v13, v14] st μ = m_G 88 59 [v0, v1, v2, v3, v4, v5, v6, v7, v8, v9, v10, .ref a0, v12, v13, v14] (.ref a0 :: st) μ := g_aload (i := 11) (by decide +kernel) rfl
theorem i88_57N : m_G 88 57 [v0, v1, v2, v3, v4, v5, v6, v7, v8, v9, v10, .null, v12, v13, v14] st μ = m_G 88 59 [v0, v1, v2, v3, v4, v5, v6, v7, v8, v9, v10, .null, v12, v13, v14] (.null :: st) μ := g_aloadN (i := 11) (by decide +kernel) rfl
theorem i88_59 : m_G 88 59 L (.ref a0 :: st) μ = m_G 88 65 L st μ := g_ifnonnull (off := 6) (by decide +kernel) (by decide)
theorem i88_59N : m_G 88 59 L (.null :: st) μ = m_G 88 62 L st μ := g_ifnonnullN (off := 6) (by decide +kernel)
theorem i88_62 : m_G 88 62 L st μ = m_G 88 64 L (.int (-101) :: st) μ := g_bipush (n := -101) (by decide +kernel) (by decide)
theorem i88_64 : m_G 88 64 L [.int x0] μ = some (some (.int x0), μ) := g_ireti (by decide +kernel) (by decide)
theorem i88_65 : m_G 88 65 [v0, v1, v2, v3, v4, v5, .int x0, v7, v8, v9, v10, v11, v12, v13, v14] st μ = m_G 88 67 [v0, v1, v2, v3, v4, v5, .int x0, v7, v8, v9, v10, v11, v12, v13, v14] (.int x0 :: st) μ := g_iload (i := 6) (by decide +kernel) rfl
theorem i88_67 : m_G 88 67 L (.int x0 :: st) μ = if x0 = 0 then m_G 88 87 L st μ else m_G 88 70 L st μ := g_ifeq (off := 20) (by decide +kernel) (by decide)
theorem i88_70 : m_G 88 70 [v0, v1, v2, v3, v4, v5, .int x0, v7, v8, v9, v10, v11, v12, v13, v14] st μ = m_G 88 72 [v0, v1, v2, v3, v4, v5, .int x0, v7, v8, v9, v10, v11, v12, v13, v14] (.int x0 :: st) μ := g_iload (i := 6) (by decide +kernel) rfl
theorem i88_72 : m_G 88 72 L st μ = m_G 88 74 L (.int 10 :: st) μ := g_bipush (n := 10) (by decide +kernel) (by decide)
theorem i88_74 : m_G 88 74 L (.int x1 :: .int x0 :: st) μ = if x0 < x1 then m_G 88 84 L st μ else m_G 88 77 L st μ := g_cmplt (off := 10) (by decide +kernel) (by decide)
theorem i88_77 : m_G 88 77 [v0, v1, v2, v3, v4, v5, .int x0, v7, v8, v9, v10, v11, v12, v13, v14] st μ = m_G 88 79 [v0, v1, v2, v3, v4, v5, .int x0, v7, v8, v9, v10, v11, v12, v13, v14] (.int x0 :: st) μ := g_iload (i := 6) (by decide +kernel) rfl
theorem i88_79 : m_G 88 79 L st μ = m_G 88 81 L (.int 69 :: st) μ := g_bipush (n := 69) (by decide +kernel) (by decide)
theorem i88_81 : m_G 88 81 L (.int x1 :: .int x0 :: st) μ = if x1 < x0 then m_G 88 84 L st μ else m_G 88 87 L st μ := g_cmple (off := 6) (by decide +kernel) (by decide)
theorem i88_84 : m_G 88 84 L st μ = m_G 88 86 L (.int (-102) :: st) μ := g_bipush (n := -102) (by decide +kernel) (by decide)
theorem i88_86 : m_G 88 86 L [.int x0] μ = some (some (.int x0), μ) := g_ireti (by decide +kernel) (by decide)
theorem i88_87 : m_G 88 87 [.ref a0, v1, v2, v3, v4, v5, v6, v7, v8, v9, v10, v11, v12, v13, v14] st μ = m_G 88 88 [.ref a0, v1, v2, v3, v4, v5, v6, v7, v8, v9, v10, v11, v12, v13, v14] (.ref a0 :: st) μ := g_aload_n (i := 0) (by decide +kernel) rfl
theorem i88_88 : m_G 88 88 [v0, v1, v2, v3, v4, v5, v6, .ref a0, v8, v9, v10, v11, v12, v13, v14] st μ = m_G 88 90 [v0, v1, v2, v3, v4, v5, v6, .ref a0, v8, v9, v10, v11, v12, v13, v14] (.ref a0 :: st) μ := g_aload (i := 7) (by decide +kernel) rfl
theorem i88_88N : m_G 88 88 [v0, v1, v2, v3, v4, v5, v6, .null, v8, v9, v10, v11, v12, v13, v14] st μ = m_G 88 90 [v0, v1, v2, v3, v4, v5, v6, .null, v8, v9, v10, v11, v12, v13, v14] (.null :: st) μ := g_aloadN (i := 7) (by decide +kernel) rfl
theorem i88_90 : m_G 88 90 [v0, v1, v2, v3, v4, v5, v6, v7, .ref a0, v9, v10, v11, v12, v13, v14] st μ = m_G 88 92 [v0, v1, v2, v3, v4, v5, v6, v7, .ref a0, v9, v10, v11, v12, v13, v14] (.ref a0 :: st) μ := g_aload (i := 8) (by decide +kernel) rfl
theorem i88_90N : m_G 88 90 [v0, v1, v2, v3, v4, v5, v6, v7, .null, v9, v10, v11, v12, v13, v14] st μ = m_G 88 92 [v0, v1, v2, v3, v4, v5, v6, v7, .null, v9, v10, v11, v12, v13, v14] (.null :: st) μ := g_aloadN (i := 8) (by decide +kernel) rfl
theorem i88_92 : m_G 88 92 [v0, v1, v2, v3, v4, v5, v6, v7, v8, v9, v10, .ref a0, v12, v13, v14] st μ = m_G 88 94 [v0, v1, v2, v3, v4, v5, v6, v7, v8, v9, v10, .ref a0, v12, v13, v14] (.ref a0 :: st) μ := g_aload (i := 11) (by decide +kernel) rfl
theorem i88_92N : m_G 88 92 [v0, v1, v2, v3, v4, v5, v6, v7, v8, v9, v10, .null, v12, v13, v14] st μ = m_G 88 94 [v0, v1, v2, v3, v4, v5, v6, v7, v8, v9, v10, .null, v12, v13, v14] (.null :: st) μ := g_aloadN (i := 11) (by decide +kernel) rfl
theorem i88_94 (ho : m_oc μ a0 = some 8) : m_G 88 94 L (.ref a3 :: .ref a2 :: .ref a1 :: .ref a0 :: []) μ = b_c (m_D 89 [.ref a0, .ref a1, .ref a2, .ref a3] μ) 88 97 L [] := g_virt (i := 247) (n := 3) (a := a0) (c := 8) (l := [(8, 89)]) (by decide +kernel) (by decide +kernel) rfl rfl (x_call_ok (ws := [1, 1, 1, 1]) (Nat.le_of_ble_eq_true rfl) rfl (by decide +kernel) rfl (by decide +kernel) rfl rfl) ho
theorem i88_97 : m_G 88 97 [v0, v1, v2, v3, v4, v5, .int x0, v7, v8, v9, v10, v11, v12, v13, v14] st μ = m_G 88 99 [v0, v1, v2, v3, v4, v5, .int x0, v7, v8, v9, v10, v11, v12, v13, v14] (.int x0 :: st) μ := g_iload (i := 6) (by decide +kernel) rfl
theorem i88_99 : m_G 88 99 L (.int x0 :: st) μ = if x0 = 0 then m_G 88 102 L st μ else m_G 88 116 L st μ := g_ifne (off := 17) (by decide +kernel) (by decide)
theorem i88_102 : m_G 88 102 [.ref a0, v1, v2, v3, v4, v5, v6, v7, v8, v9, v10, v11, v12, v13, v14] st μ = m_G 88 103 [.ref a0, v1, v2, v3, v4, v5, v6, v7, v8, v9, v10, v11, v12, v13, v14] (.ref a0 :: st) μ := g_aload_n (i := 0) (by decide +kernel) rfl
theorem i88_103 : m_G 88 103 [v0, v1, v2, v3, v4, v5, v6, .ref a0, v8, v9, v10, v11, v12, v13, v14] st μ = m_G 88 105 [v0, v1, v2, v3, v4, v5, v6, .ref a0, v8, v9, v10, v11, v12, v13, v14] (.ref a0 :: st) μ := g_aload (i := 7) (by decide +kernel) rfl
theorem i88_103N : m_G 88 103 [v0, v1, v2, v3, v4, v5, v6, .null, v8, v9, v10, v11, v12, v13, v14] st μ = m_G 88 105 [v0, v1, v2, v3, v4, v5, v6, .null, v8, v9, v10, v11, v12, v13, v14] (.null :: st) μ := g_aloadN (i := 7) (by decide +kernel) rfl
theorem i88_105 : m_G 88 105 [v0, v1, v2, v3, v4, v5, v6, v7, .ref a0, v9, v10, v11, v12, v13, v14] st μ = m_G 88 107 [v0, v1, v2, v3, v4, v5, v6, v7, .ref a0, v9, v10, v11, v12, v13, v14] (.ref a0 :: st) μ := g_aload (i := 8) (by decide +kernel) rfl
theorem i88_105N : m_G 88 105 [v0, v1, v2, v3, v4, v5, v6, v7, .null, v9, v10, v11, v12, v13, v14] st μ = m_G 88 107 [v0, v1, v2, v3, v4, v5, v6, v7, .null, v9, v10, v11, v12, v13, v14] (.null :: st) μ := g_aloadN (i := 8) (by decide +kernel) rfl
theorem i88_107 : m_G 88 107 [v0, v1, v2, v3, v4, v5, v6, v7, v8, v9, .ref a0, v11, v12, v13, v14] st μ = m_G 88 109 [v0, v1, v2, v3, v4, v5, v6, v7, v8, v9, .ref a0, v11, v12, v13, v14] (.ref a0 :: st) μ := g_aload (i := 10) (by decide +kernel) rfl
theorem i88_107N : m_G 88 107 [v0, v1, v2, v3, v4, v5, v6, v7, v8, v9, .null, v11, v12, v13, v14] st μ = m_G 88 109 [v0, v1, v2, v3, v4, v5, v6, v7, v8, v9, .null, v11, v12, v13, v14] (.null :: st) μ := g_aloadN (i := 10) (by decide +kernel) rfl
theorem i88_109 : m_G 88 109 L st μ = m_G 88 112 L (.int 576 :: st) μ := g_sipush (n := 576) (by decide +kernel) (by decide)
theorem i88_112 (ho : m_oc μ a0 = some 8) : m_G 88 112 L (.int x3 :: .ref a3 :: .ref a2 :: .ref a1 :: .ref a0 :: []) μ = b_c (m_D 90 [.ref a0, .ref a1, .ref a2, .ref a3, .int x3] μ) 88 115 L [] := g_virt (i := 251) (n := 4) (a := a0) (c := 8) (l := [(8, 90)]) (by decide +kernel) (by decide +kernel) rfl rfl (x_call_ok (ws := [1, 1, 1, 1, 1]) (Nat.le_of_ble_eq_true rfl) rfl (by decide +kernel) rfl (by decide +kernel) rfl rfl) ho
theorem i88_115 : m_G 88 115 L [.int x0] μ = some (some (.int x0), μ) := g_ireti (by decide +kernel) (by decide)
theorem i88_116 : m_G 88 116 [v0, v1, v2, v3, v4, v5, .int x0, v7, v8, v9, v10, v11, v12, v13, v14] st μ = m_G 88 118 [v0, v1, v2, v3, v4, v5, .int x0, v7, v8, v9, v10, v11, v12, v13, v14] (.int x0 :: st) μ := g_iload (i := 6) (by decide +kernel) rfl
theorem i88_118 : m_G 88 118 L st μ = m_G 88 120 L (.int 40 :: st) μ := g_bipush (n := 40) (by decide +kernel) (by decide)
theorem i88_120 : m_G 88 120 L (.int x1 :: .int x0 :: st) μ = if x0 < x1 then m_G 88 123 L st μ else m_G 88 131 L st μ := g_cmpge (off := 11) (by decide +kernel) (by decide)
theorem i88_123 : m_G 88 123 [v0, v1, v2, v3, v4, v5, .int x0, v7, v8, v9, v10, v11, v12, v13, v14] st μ = m_G 88 125 [v0, v1, v2, v3, v4, v5, .int x0, v7, v8, v9, v10, v11, v12, v13, v14] (.int x0 :: st) μ := g_iload (i := 6) (by decide +kernel) rfl
theorem i88_125 : m_G 88 125 L st μ = m_G 88 127 L (.int 10 :: st) μ := g_bipush (n := 10) (by decide +kernel) (by decide)
theorem i88_127 : m_G 88 127 L (.int x1 :: .int x0 :: st) μ = m_G 88 128 L (.int (x0 - x1) :: st) μ := g_isub (by decide +kernel)
theorem i88_128 : m_G 88 128 L st μ = m_G 88 136 L st μ := g_goto (off := 8) (by decide +kernel) (by decide)
theorem i88_131 : m_G 88 131 [v0, v1, v2, v3, v4, v5, .int x0, v7, v8, v9, v10, v11, v12, v13, v14] st μ = m_G 88 133 [v0, v1, v2, v3, v4, v5, .int x0, v7, v8, v9, v10, v11, v12, v13, v14] (.int x0 :: st) μ := g_iload (i := 6) (by decide +kernel) rfl
theorem i88_133 : m_G 88 133 L st μ = m_G 88 135 L (.int 40 :: st) μ := g_bipush (n := 40) (by decide +kernel) (by decide)
theorem i88_135 : m_G 88 135 L (.int x1 :: .int x0 :: st) μ = m_G 88 136 L (.int (x0 - x1) :: st) μ := g_isub (by decide +kernel)
theorem i88_136 : m_G 88 136 [v0, v1, v2, v3, v4, v5, v6, v7, v8, v9, v10, v11, v12, v13, v14] (.int x0 :: st) μ = m_G 88 138 [v0, v1, v2, v3, v4, v5, v6, v7, v8, v9, v10, v11, .int x0, v13, v14] st μ := g_istore (i := 12) (by decide +kernel) (Nat.le_of_ble_eq_true rfl) rfl
theorem i88_138 : m_G 88 138 [.ref a0, v1, v2, v3, v4, v5, v6, v7, v8, v9, v10, v11, v12, v13, v14] st μ = m_G 88 139 [.ref a0, v1, v2, v3, v4, v5, v6, v7, v8, v9, v10, v11, v12, v13, v14] (.ref a0 :: st) μ := g_aload_n (i := 0) (by decide +kernel) rfl
theorem i88_139 : m_G 88 139 [v0, v1, v2, v3, v4, v5, v6, .ref a0, v8, v9, v10, v11, v12, v13, v14] st μ = m_G 88 141 [v0, v1, v2, v3, v4, v5, v6, .ref a0, v8, v9, v10, v11, v12, v13, v14] (.ref a0 :: st) μ := g_aload (i := 7) (by decide +kernel) rfl
theorem i88_139N : m_G 88 139 [v0, v1, v2, v3, v4, v5, v6, .null, v8, v9, v10, v11, v12, v13, v14] st μ = m_G 88 141 [v0, v1, v2, v3, v4, v5, v6, .null, v8, v9, v10, v11, v12, v13, v14] (.null :: st) μ := g_aloadN (i := 7) (by decide +kernel) rfl
theorem i88_141 : m_G 88 141 [v0, v1, v2, v3, v4, v5, v6, v7, .ref a0, v9, v10, v11, v12, v13, v14] st μ = m_G 88 143 [v0, v1, v2, v3, v4, v5, v6, v7, .ref a0, v9, v10, v11, v12, v13, v14] (.ref a0 :: st) μ := g_aload (i := 8) (by decide +kernel) rfl
theorem i88_141N : m_G 88 141 [v0, v1, v2, v3, v4, v5, v6, v7, .null, v9, v10, v11, v12, v13, v14] st μ = m_G 88 143 [v0, v1, v2, v3, v4, v5, v6, v7, .null, v9, v10, v11, v12, v13, v14] (.null :: st) μ := g_aloadN (i := 8) (by decide +kernel) rfl
theorem i88_143 : m_G 88 143 [v0, v1, v2, v3, v4, v5, v6, v7, v8, v9, .ref a0, v11, v12, v13, v14] st μ = m_G 88 145 [v0, v1, v2, v3, v4, v5, v6, v7, v8, v9, .ref a0, v11, v12, v13, v14] (.ref a0 :: st) μ := g_aload (i := 10) (by decide +kernel) rfl
theorem i88_143N : m_G 88 143 [v0, v1, v2, v3, v4, v5, v6, v7, v8, v9, .null, v11, v12, v13, v14] st μ = m_G 88 145 [v0, v1, v2, v3, v4, v5, v6, v7, v8, v9, .null, v11, v12, v13, v14] (.null :: st) μ := g_aloadN (i := 10) (by decide +kernel) rfl
theorem i88_145 : m_G 88 145 [v0, v1, v2, v3, v4, v5, v6, v7, v8, v9, v10, v11, .int x0, v13, v14] st μ = m_G 88 147 [v0, v1, v2, v3, v4, v5, v6, v7, v8, v9, v10, v11, .int x0, v13, v14] (.int x0 :: st) μ := g_iload (i := 12) (by decide +kernel) rfl
theorem i88_147 (ho : m_oc μ a0 = some 8) : m_G 88 147 L (.int x3 :: .ref a3 :: .ref a2 :: .ref a1 :: .ref a0 :: []) μ = b_c (m_D 90 [.ref a0, .ref a1, .ref a2, .ref a3, .int x3] μ) 88 150 L [] := g_virt (i := 251) (n := 4) (a := a0) (c := 8) (l := [(8, 90)]) (by decide +kernel) (by decide +kernel) rfl rfl (x_call_ok (ws := [1, 1, 1, 1, 1]) (Nat.le_of_ble_eq_true rfl) rfl (by decide +kernel) rfl (by decide +kernel) rfl rfl) ho
theorem i88_150 : m_G 88 150 [v0, v1, v2, v3, v4, v5, v6, v7, v8, v9, v10, v11, v12, v13, v14] (.int x0 :: st) μ = m_G 88 152 [v0, v1, v2, v3, v4, v5, v6, v7, v8, v9, v10, v11, v12, .int x0, v14] st μ := g_istore (i := 13) (by decide +kernel) (Nat.le_of_ble_eq_true rfl) rfl
theorem i88_152 : m_G 88 152 [v0, v1, v2, v3, v4, v5, v6, v7, v8, v9, v10, v11, v12, .int x0, v14] st μ = m_G 88 154 [v0, v1, v2, v3, v4, v5, v6, v7, v8, v9, v10, v11, v12, .int x0, v14] (.int x0 :: st) μ := g_iload (i := 13) (by decide +kernel) rfl
theorem i88_154 : m_G 88 154 L (.int x0 :: st) μ = if x0 < 0 then m_G 88 160 L st μ else m_G 88 157 L st μ := g_iflt (off := 6) (by decide +kernel) (by decide)
theorem i88_157 : m_G 88 157 L st μ = m_G 88 159 L (.int (-2) :: st) μ := g_bipush (n := -2) (by decide +kernel) (by decide)
theorem i88_159 : m_G 88 159 L [.int x0] μ = some (some (.int x0), μ) := g_ireti (by decide +kernel) (by decide)
theorem i88_160 : m_G 88 160 L st μ = m_G 88 161 L (.int (-1) :: st) μ := g_iconst (n := -1) (by decide +kernel) (by decide)
theorem i88_161 : m_G 88 161 [v0, v1, v2, v3, v4, v5, v6, v7, v8, v9, v10, v11, v12, .int x0, v14] st μ = m_G 88 163 [v0, v1, v2, v3, v4, v5, v6, v7, v8, v9, v10, v11, v12, .int x0, v14] (.int x0 :: st) μ := g_iload (i := 13) (by decide +kernel) rfl
theorem i88_163 : m_G 88 163 L (.int x1 :: .int x0 :: st) μ = m_G 88 164 L (.int (x0 - x1) :: st) μ := g_isub (by decide +kernel)
theorem i88_164 : m_G 88 164 [v0, v1, v2, v3, v4, v5, v6, v7, v8, v9, v10, v11, v12, v13, v14] (.int x0 :: st) μ = m_G 88 166 [v0, v1, v2, v3, v4, v5, v6, v7, v8, v9, v10, v11, v12, v13, .int x0] st μ := g_istore (i := 14) (by decide +kernel) (Nat.le_of_ble_eq_true rfl) rfl
theorem i88_166 : m_G 88 166 [v0, v1, v2, v3, v4, v5, .int x0, v7, v8, v9, v10, v11, v12, v13, v14] st μ = m_G 88 168 [v0, v1, v2, v3, v4, v5, .int x0, v7, v8, v9, v10, v11, v12, v13, v14] (.int x0 :: st) μ := g_iload (i := 6) (by decide +kernel) rfl
theorem i88_168 : m_G 88 168 L st μ = m_G 88 170 L (.int 40 :: st) μ := g_bipush (n := 40) (by decide +kernel) (by decide)
theorem i88_170 : m_G 88 170 L (.int x1 :: .int x0 :: st) μ = if x0 < x1 then m_G 88 173 L st μ else m_G 88 188 L st μ := g_cmpge (off := 18) (by decide +kernel) (by decide)
theorem i88_173 : m_G 88 173 [v0, v1, v2, v3, v4, v5, v6, v7, v8, .ref a0, v10, v11, v12, v13, v14] st μ = m_G 88 175 [v0, v1, v2, v3, v4, v5, v6, v7, v8, .ref a0, v10, v11, v12, v13, v14] (.ref a0 :: st) μ := g_aload (i := 9) (by decide +kernel) rfl
theorem i88_173N : m_G 88 173 [v0, v1, v2, v3, v4, v5, v6, v7, v8, .null, v10, v11, v12, v13, v14] st μ = m_G 88 175 [v0, v1, v2, v3, v4, v5, v6, v7, v8, .null, v10, v11, v12, v13, v14] (.null :: st) μ := g_aloadN (i := 9) (by decide +kernel) rfl
theorem i88_175 : m_G 88 175 [v0, v1, v2, v3, v4, v5, v6, v7, v8, v9, .ref a0, v11, v12, v13, v14] st μ = m_G 88 177 [v0, v1, v2, v3, v4, v5, v6, v7, v8, v9, .ref a0, v11, v12, v13, v14] (.ref a0 :: st) μ := g_aload (i := 10) (by decide +kernel) rfl
theorem i88_175N : m_G 88 175 [v0, v1, v2, v3, v4, v5, v6, v7, v8, v9, .null, v11, v12, v13, v14] st μ = m_G 88 177 [v0, v1, v2, v3, v4, v5, v6, v7, v8, v9, .null, v11, v12, v13, v14] (.null :: st) μ := g_aloadN (i := 10) (by decide +kernel) rfl
theorem i88_177 : m_G 88 177 [v0, v1, v2, v3, v4, v5, v6, v7, v8, v9, v10, v11, v12, v13, .int x0] st μ = m_G 88 179 [v0, v1, v2, v3, v4, v5, v6, v7, v8, v9, v10, v11, v12, v13, .int x0] (.int x0 :: st) μ := g_iload (i := 14) (by decide +kernel) rfl
theorem i88_179 : m_G 88 179 L st μ = m_G 88 181 L (.int 24 :: st) μ := g_bipush (n := 24) (by decide +kernel) (by decide)
theorem i88_181 (hy : ¬ x1 = 0) : m_G 88 181 L (.int x1 :: .int x0 :: st) μ = m_G 88 182 L (.int (x0 / x1) :: st) μ := g_idiv (by decide +kernel) hy
theorem i88_182 (ho : m_oc μ a0 = some 6) : m_G 88 182 L (.int x1 :: .ref a1 :: .ref a0 :: []) μ = b_c (m_D 50 [.ref a0, .ref a1, .int x1] μ) 88 185 L [] := g_virt (i := 255) (n := 2) (a := a0) (c := 6) (l := [(6, 50)]) (by decide +kernel) (by decide +kernel) rfl rfl (x_call_ok (ws := [1, 1, 1]) (Nat.le_of_ble_eq_true rfl) rfl (by decide +kernel) rfl (by decide +kernel) rfl rfl) ho
theorem i88_185 : m_G 88 185 L st μ = m_G 88 200 L st μ := g_goto (off := 15) (by decide +kernel) (by decide)
theorem i88_188 : m_G 88 188 [v0, v1, v2, v3, v4, v5, v6, v7, v8, .ref a0, v10, v11, v12, v13, v14] st μ = m_G 88 190 [v0, v1, v2, v3, v4, v5, v6, v7, v8, .ref a0, v10, v11, v12, v13, v14] (.ref a0 :: st) μ := g_aload (i := 9) (by decide +kernel) rfl
theorem i88_188N : m_G 88 188 [v0, v1, v2, v3, v4, v5, v6, v7, v8, .null, v10, v11, v12, v13, v14] st μ = m_G 88 190 [v0, v1, v2, v3, v4, v5, v6, v7, v8, .null, v10, v11, v12, v13, v14] (.null :: st) μ := g_aloadN (i := 9) (by decide +kernel) rfl
theorem i88_190 : m_G 88 190 [v0, v1, v2, v3, v4, v5, v6, v7, v8, v9, v10, .ref a0, v12, v13, v14] st μ = m_G 88 192 [v0, v1, v2, v3, v4, v5, v6, v7, v8, v9, v10, .ref a0, v12, v13, v14] (.ref a0 :: st) μ := g_aload (i := 11) (by decide +kernel) rfl
theorem i88_190N : m_G 88 190 [v0, v1, v2, v3, v4, v5, v6, v7, v8, v9, v10, .null, v12, v13, v14] st μ = m_G 88 192 [v0, v1, v2, v3, v4, v5, v6, v7, v8, v9, v10, .null, v12, v13, v14] (.null :: st) μ := g_aloadN (i := 11) (by decide +kernel) rfl
theorem i88_192 : m_G 88 192 [v0, v1, v2, v3, v4, v5, v6, v7, v8, v9, v10, v11, v12, v13, .int x0] st μ = m_G 88 194 [v0, v1, v2, v3, v4, v5, v6, v7, v8, v9, v10, v11, v12, v13, .int x0] (.int x0 :: st) μ := g_iload (i := 14) (by decide +kernel) rfl
theorem i88_194 : m_G 88 194 L st μ = m_G 88 196 L (.int 24 :: st) μ := g_bipush (n := 24) (by decide +kernel) (by decide)
theorem i88_196 (hy : ¬ x1 = 0) : m_G 88 196 L (.int x1 :: .int x0 :: st) μ = m_G 88 197 L (.int (x0 - x0 / x1 * x1) :: st) μ := g_irem (by decide +kernel) hy
theorem i88_197 (ho : m_oc μ a0 = some 6) : m_G 88 197 L (.int x1 :: .ref a1 :: .ref a0 :: []) μ = b_c (m_D 50 [.ref a0, .ref a1, .int x1] μ) 88 200 L [] := g_virt (i := 255) (n := 2) (a := a0) (c := 6) (l := [(6, 50)]) (by decide +kernel) (by decide +kernel) rfl rfl (x_call_ok (ws := [1, 1, 1]) (Nat.le_of_ble_eq_true rfl) rfl (by decide +kernel) rfl (by decide +kernel) rfl rfl) ho
theorem i88_200 : m_G 88 200 L [.int x0] μ = some (some (.int x0), μ) := g_ireti (by decide +kernel) (by decide)
theorem D88 : m_D 88 [.ref a0, .int x0, .int x1, .int x2, .int x3, .int x4, .int x5] μ = m_G 88 0 [.ref a0, .int x0, .int x1, .int x2, .int x3, .int x4, .int x5, m_d, m_d, m_d, m_d, m_d, m_d, m_d, m_d] [] μ := d_def (by decide) rfl
theorem i89_0 : m_G 89 0 [v0, .ref a0, v2, v3, v4, v5] st μ = m_G 89 1 [v0, .ref a0, v2, v3, v4, v5] (.ref a0 :: st) μ := g_aload_n (i := 1) (by decide +kernel) rfl
theorem i89_1 : m_G 89 1 [v0, v1, v2, .ref a0, v4, v5] st μ = m_G 89 2 [v0, v1, v2, .ref a0, v4, v5] (.ref a0 :: st) μ := g_aload_n (i := 3) (by decide +kernel) rfl
theorem i89_2 : m_G 89 2 L st μ = m_G 89 3 L (.int 1 :: st) μ := g_iconst (n := 1) (by decide +kernel) (by decide)
theorem i89_3 (ho : m_oc μ a0 = some 6) : m_G 89 3 L (.int x1 :: .ref a1 :: .ref a0 :: []) μ = b_c (m_D 49 [.ref a0, .ref a1, .int x1] μ) 89 6 L [] := g_virt (i := 158) (n := 2) (a := a0) (c := 6) (l := [(6, 49)]) (by decide +kernel) (by decide +kernel) rfl rfl (x_call_ok (ws := [1, 1, 1]) (Nat.le_of_ble_eq_true rfl) rfl (by decide +kernel) rfl (by decide +kernel) rfl rfl) ho
theorem i89_6 : m_G 89 6 [v0, v1, v2, v3, v4, v5] (.int x0 :: st) μ = m_G 89 8 [v0, v1, v2, v3, .int x0, v5] st μ := g_istore (i := 4) (by decide +kernel) (Nat.le_of_ble_eq_true rfl) rfl
theorem i89_8 : m_G 89 8 L st μ = m_G 89 9 L (.int 0 :: st) μ := g_iconst (n := 0) (by decide +kernel) (by decide)
theorem i89_9 : m_G 89 9 [v0, v1, v2, v3, v4, v5] (.int x0 :: st) μ = m_G 89 11 [v0, v1, v2, v3, v4, .int x0] st μ := g_istore (i := 5) (by decide +kernel) (Nat.le_of_ble_eq_true rfl) rfl
theorem i89_11 : m_G 89 11 [v0, v1, v2, v3, v4, .int x0] st μ = m_G 89 13 [v0, v1, v2, v3, v4, .int x0] (.int x0 :: st) μ := g_iload (i := 5) (by decide +kernel) rfl
theorem i89_13 : m_G 89 13 L st μ = m_G 89 15 L (.int 24 :: st) μ := g_bipush (n := 24) (by decide +kernel) (by decide)
theorem i89_15 : m_G 89 15 L (.int x1 :: .int x0 :: st) μ = if x0 < x1 then m_G 89 18 L st μ else m_G 89 52 L st μ := g_cmpge (off := 37) (by decide +kernel) (by decide)
theorem i89_18 : m_G 89 18 [.ref a0, v1, v2, v3, v4, v5] st μ = m_G 89 19 [.ref a0, v1, v2, v3, v4, v5] (.ref a0 :: st) μ := g_aload_n (i := 0) (by decide +kernel) rfl
theorem i89_19 : m_G 89 19 L (.ref a0 :: st) μ = b_v (m_gf μ a0 8 14) 89 22 L st μ := g_getf (i := 66) (by decide +kernel) (by decide +kernel)
theorem i89_22 : m_G 89 22 [v0, v1, v2, v3, v4, .int x0] st μ = m_G 89 24 [v0, v1, v2, v3, v4, .int x0] (.int x0 :: st) μ := g_iload (i := 5) (by decide +kernel) rfl
theorem i89_24 : m_G 89 24 [v0, v1, v2, v3, .int x0, v5] st μ = m_G 89 26 [v0, v1, v2, v3, .int x0, v5] (.int x0 :: st) μ := g_iload (i := 4) (by decide +kernel) rfl
theorem i89_26 : m_G 89 26 [v0, v1, v2, v3, v4, .int x0] st μ = m_G 89 28 [v0, v1, v2, v3, v4, .int x0] (.int x0 :: st) μ := g_iload (i := 5) (by decide +kernel) rfl
theorem i89_28 : m_G 89 28 L (.int x1 :: .int x0 :: [w0, w1]) μ = b_c (m_D 96 [.int x0, .int x1] μ) 89 31 L [w0, w1] := g_stat (i := 258) (n := 2) (by decide +kernel) (by decide +kernel) (by decide) (x_call_ok (ws := [1, 1]) (Nat.le_of_ble_eq_true rfl) rfl (by decide +kernel) rfl (by decide +kernel) rfl rfl)
theorem i89_31 : m_G 89 31 L (.int x0 :: st) μ = if x0 = 0 then m_G 89 44 L st μ else m_G 89 34 L st μ := g_ifeq (off := 13) (by decide +kernel) (by decide)
theorem i89_34 : m_G 89 34 [v0, v1, .ref a0, v3, v4, v5] st μ = m_G 89 35 [v0, v1, .ref a0, v3, v4, v5] (.ref a0 :: st) μ := g_aload_n (i := 2) (by decide +kernel) rfl
theorem i89_35 : m_G 89 35 [v0, v1, v2, .ref a0, v4, v5] st μ = m_G 89 36 [v0, v1, v2, .ref a0, v4, v5] (.ref a0 :: st) μ := g_aload_n (i := 3) (by decide +kernel) rfl
theorem i89_36 : m_G 89 36 [v0, v1, v2, v3, v4, .int x0] st μ = m_G 89 38 [v0, v1, v2, v3, v4, .int x0] (.int x0 :: st) μ := g_iload (i := 5) (by decide +kernel) rfl
theorem i89_38 (ho : m_oc μ a0 = some 6) : m_G 89 38 L (.int x1 :: .ref a1 :: .ref a0 :: [w0, w1]) μ = b_c (m_D 50 [.ref a0, .ref a1, .int x1] μ) 89 41 L [w0, w1] := g_virt (i := 255) (n := 2) (a := a0) (c := 6) (l := [(6, 50)]) (by decide +kernel) (by decide +kernel) rfl rfl (x_call_ok (ws := [1, 1, 1]) (Nat.le_of_ble_eq_true rfl) rfl (by decide +kernel) rfl (by decide +kernel) rfl rfl) ho
theorem i89_41 : m_G 89 41 L st μ = m_G 89 45 L st μ := g_goto (off := 4) (by decide +kernel) (by decide)
theorem i89_44 : m_G 89 44 L st μ = m_G 89 45 L (.int (-1) :: st) μ := g_iconst (n := -1) (by decide +kernel) (by decide)
theorem i89_45 : m_G 89 45 L (.int x1 :: .int x0 :: .ref a0 :: st) μ = b_m (m_pa μ a0 x0 x1) 89 46 L st := g_iast (by decide +kernel)
theorem i89_46 : m_G 89 46 [v0, v1, v2, v3, v4, .int x0] st μ = m_G 89 49 [v0, v1, v2, v3, v4, .int (x0 + 1)] st μ := g_iinc (i := 5) (n := 1) (by decide +kernel) rfl (by decide) rfl
theorem i89_49 : m_G 89 49 L st μ = m_G 89 11 L st μ := g_goto (off := -38) (by decide +kernel) (by decide)
theorem i89_52 : m_G 89 52 L [] μ = some (none, μ) := g_ret (by decide +kernel) (by decide)
theorem D89 : m_D 89 [.ref a0, .ref a1, .ref a2, .ref a3] μ = m_G 89 0 [.ref a0, .ref a1, .ref a2, .ref a3, m_d, m_d] [] μ := d_def (by decide) rfl
theorem i90_0 : m_G 90 0 [v0, .ref a0, v2, v3, v4, v5, v6, v7, v8, v9] st μ = m_G 90 1 [v0, .ref a0, v2, v3, v4, v5, v6, v7, v8, v9] (.ref a0 :: st) μ := g_aload_n (i := 1) (by decide +kernel) rfl
theorem i90_1 : m_G 90 1 [v0, v1, v2, .ref a0, v4, v5, v6, v7, v8, v9] st μ = m_G 90 2 [v0, v1, v2, .ref a0, v4, v5, v6, v7, v8, v9] (.ref a0 :: st) μ := g_aload_n (i := 3) (by decide +kernel) rfl
theorem i90_2 : m_G 90 2 L st μ = m_G 90 3 L (.int 1 :: st) μ := g_iconst (n := 1) (by decide +kernel) (by decide)
theorem i90_3 (ho : m_oc μ a0 = some 6) : m_G 90 3 L (.int x1 :: .ref a1 :: .ref a0 :: []) μ = b_c (m_D 49 [.ref a0, .ref a1, .int x1] μ) 90 6 L [] := g_virt (i := 158) (n := 2) (a := a0) (c := 6) (l := [(6, 49)]) (by decide +kernel) (by decide +kernel) rfl rfl (x_call_ok (ws := [1, 1, 1]) (Nat.le_of_ble_eq_true rfl) rfl (by decide +kernel) rfl (by decide +kernel) rfl rfl) ho
theorem i90_6 : m_G 90 6 [v0, v1, v2, v3, v4, v5, v6, v7, v8, v9] (.int x0 :: st) μ = m_G 90 8 [v0, v1, v2, v3, v4, .int x0, v6, v7, v8, v9] st μ := g_istore (i := 5) (by decide +kernel) (Nat.le_of_ble_eq_true rfl) rfl
theorem i90_8 : m_G 90 8 L st μ = m_G 90 9 L (.int 0 :: st) μ := g_iconst (n := 0) (by decide +kernel) (by decide)
theorem i90_9 : m_G 90 9 [v0, v1, v2, v3, v4, v5, v6, v7, v8, v9] (.int x0 :: st) μ = m_G 90 11 [v0, v1, v2, v3, v4, v5, .int x0, v7, v8, v9] st μ := g_istore (i := 6) (by decide +kernel) (Nat.le_of_ble_eq_true rfl) rfl
theorem i90_11 : m_G 90 11 L st μ = m_G 90 12 L (.int 0 :: st) μ := g_iconst (n := 0) (by decide +kernel) (by decide)
theorem i90_12 : m_G 90 12 [v0, v1, v2, v3, v4, v5, v6, v7, v8, v9] (.int x0 :: st) μ = m_G 90 14 [v0, v1, v2, v3, v4, v5, v6, .int x0, v8, v9] st μ := g_istore (i := 7) (by decide +kernel) (Nat.le_of_ble_eq_true rfl) rfl
theorem i90_14 : m_G 90 14 [v0, v1, v2, v3, v4, v5, v6, .int x0, v8, v9] st μ = m_G 90 16 [v0, v1, v2, v3, v4, v5, v6, .int x0, v8, v9] (.int x0 :: st) μ := g_iload (i := 7) (by decide +kernel) rfl
theorem i90_16 : m_G 90 16 [v0, v1, v2, .ref a0, v4, v5, v6, v7, v8, v9] st μ = m_G 90 17 [v0, v1, v2, .ref a0, v4, v5, v6, v7, v8, v9] (.ref a0 :: st) μ := g_aload_n (i := 3) (by decide +kernel) rfl
theorem i90_17 : m_G 90 17 L (.ref a0 :: st) μ = b_v (m_gf μ a0 3 0) 90 20 L st μ := g_getf (i := 262) (by decide +kernel) (by decide +kernel)
theorem i90_20 : m_G 90 20 L (.int x1 :: .int x0 :: st) μ = if x0 < x1 then m_G 90 23 L st μ else m_G 90 107 L st μ := g_cmpge (off := 87) (by decide +kernel) (by decide)
theorem i90_23 : m_G 90 23 [v0, v1, v2, v3, v4, .int x0, v6, v7, v8, v9] st μ = m_G 90 25 [v0, v1, v2, v3, v4, .int x0, v6, v7, v8, v9] (.int x0 :: st) μ := g_iload (i := 5) (by decide +kernel) rfl
theorem i90_25 : m_G 90 25 [v0, v1, v2, v3, v4, v5, v6, .int x0, v8, v9] st μ = m_G 90 27 [v0, v1, v2, v3, v4, v5, v6, .int x0, v8, v9] (.int x0 :: st) μ := g_iload (i := 7) (by decide +kernel) rfl
theorem i90_27 : m_G 90 27 L (.int x1 :: .int x0 :: []) μ = b_c (m_D 96 [.int x0, .int x1] μ) 90 30 L [] := g_stat (i := 258) (n := 2) (by decide +kernel) (by decide +kernel) (by decide) (x_call_ok (ws := [1, 1]) (Nat.le_of_ble_eq_true rfl) rfl (by decide +kernel) rfl (by decide +kernel) rfl rfl)
theorem i90_30 : m_G 90 30 L (.int x0 :: st) μ = if x0 = 0 then m_G 90 43 L st μ else m_G 90 33 L st μ := g_ifeq (off := 13) (by decide +kernel) (by decide)
theorem i90_33 : m_G 90 33 [v0, v1, .ref a0, v3, v4, v5, v6, v7, v8, v9] st μ = m_G 90 34 [v0, v1, .ref a0, v3, v4, v5, v6, v7, v8, v9] (.ref a0 :: st) μ := g_aload_n (i := 2) (by decide +kernel) rfl
theorem i90_34 : m_G 90 34 [v0, v1, v2, .ref a0, v4, v5, v6, v7, v8, v9] st μ = m_G 90 35 [v0, v1, v2, .ref a0, v4, v5, v6, v7, v8, v9] (.ref a0 :: st) μ := g_aload_n (i := 3) (by decide +kernel) rfl
theorem i90_35 : m_G 90 35 [v0, v1, v2, v3, v4, v5, v6, .int x0, v8, v9] st μ = m_G 90 37 [v0, v1, v2, v3, v4, v5, v6, .int x0, v8, v9] (.int x0 :: st) μ := g_iload (i := 7) (by decide +kernel) rfl
theorem i90_37 (ho : m_oc μ a0 = some 6) : m_G 90 37 L (.int x1 :: .ref a1 :: .ref a0 :: []) μ = b_c (m_D 50 [.ref a0, .ref a1, .int x1] μ) 90 40 L [] := g_virt (i := 255) (n := 2) (a := a0) (c := 6) (l := [(6, 50)]) (by decide +kernel) (by decide +kernel) rfl rfl (x_call_ok (ws := [1, 1, 1]) (Nat.le_of_ble_eq_true rfl) rfl (by decide +kernel) rfl (by decide +kernel) rfl rfl) ho
theorem i90_40 : m_G 90 40 L st μ = m_G 90 44 L st μ := g_goto (off := 4) (by decide +kernel) (by decide)
theorem i90_43 : m_G 90 43 L st μ = m_G 90 44 L (.int (-1) :: st) μ := g_iconst (n := -1) (by decide +kernel) (by decide)
theorem i90_44 : m_G 90 44 [v0, v1, v2, v3, v4, v5, v6, v7, v8, v9] (.int x0 :: st) μ = m_G 90 46 [v0, v1, v2, v3, v4, v5, v6, v7, .int x0, v9] st μ := g_istore (i := 8) (by decide +kernel) (Nat.le_of_ble_eq_true rfl) rfl
theorem i90_46 : m_G 90 46 L st μ = m_G 90 47 L (.int 0 :: st) μ := g_iconst (n := 0) (by decide +kernel) (by decide)
theorem i90_47 : m_G 90 47 [v0, v1, v2, v3, v4, v5, v6, v7, v8, v9] (.int x0 :: st) μ = m_G 90 49 [v0, v1, v2, v3, v4, v5, v6, v7, v8, .int x0] st μ := g_istore (i := 9) (by decide +kernel) (Nat.le_of_ble_eq_true rfl) rfl
theorem i90_49 : m_G 90 49 [v0, v1, v2, v3, v4, v5, v6, v7, v8, .int x0] st μ = m_G 90 51 [v0, v1, v2, v3, v4, v5, v6, v7, v8, .int x0] (.int x0 :: st) μ := g_iload (i := 9) (by decide +kernel) rfl
theorem i90_51 : m_G 90 51 L st μ = m_G 90 53 L (.int 24 :: st) μ := g_bipush (n := 24) (by decide +kernel) (by decide)
theorem i90_53 : m_G 90 53 L (.int x1 :: .int x0 :: st) μ = if x0 < x1 then m_G 90 56 L st μ else m_G 90 101 L st μ := g_cmpge (off := 48) (by decide +kernel) (by decide)
theorem i90_56 : m_G 90 56 [v0, v1, v2, v3, v4, v5, v6, v7, .int x0, v9] st μ = m_G 90 58 [v0, v1, v2, v3, v4, v5, v6, v7, .int x0, v9] (.int x0 :: st) μ := g_iload (i := 8) (by decide +kernel) rfl
theorem i90_58 : m_G 90 58 L st μ = m_G 90 59 L (.int (-1) :: st) μ := g_iconst (n := -1) (by decide +kernel) (by decide)
theorem i90_59 : m_G 90 59 L (.int x1 :: .int x0 :: st) μ = if x0 = x1 then m_G 90 95 L st μ else m_G 90 62 L st μ := g_cmpeq (off := 36) (by decide +kernel) (by decide)
theorem i90_62 : m_G 90 62 [.ref a0, v1, v2, v3, v4, v5, v6, v7, v8, v9] st μ = m_G 90 63 [.ref a0, v1, v2, v3, v4, v5, v6, v7, v8, v9] (.ref a0 :: st) μ := g_aload_n (i := 0) (by decide +kernel) rfl
theorem i90_63 : m_G 90 63 L (.ref a0 :: st) μ = b_v (m_gf μ a0 8 14) 90 66 L st μ := g_getf (i := 66) (by decide +kernel) (by decide +kernel)
theorem i90_66 : m_G 90 66 [v0, v1, v2, v3, v4, v5, v6, v7, v8, .int x0] st μ = m_G 90 68 [v0, v1, v2, v3, v4, v5, v6, v7, v8, .int x0] (.int x0 :: st) μ := g_iload (i := 9) (by decide +kernel) rfl
theorem i90_68 : m_G 90 68 L (.int x0 :: .ref a0 :: st) μ = b_i (m_ga μ a0 x0) 90 69 L st μ := g_iald (by decide +kernel)
theorem i90_69 : m_G 90 69 [v0, v1, v2, v3, v4, v5, v6, v7, .int x0, v9] st μ = m_G 90 71 [v0, v1, v2, v3, v4, v5, v6, v7, .int x0, v9] (.int x0 :: st) μ := g_iload (i := 8) (by decide +kernel) rfl
theorem i90_71 : m_G 90 71 L (.int x1 :: .int x0 :: st) μ = if x0 = x1 then m_G 90 74 L st μ else m_G 90 95 L st μ := g_cmpne (off := 24) (by decide +kernel) (by decide)
theorem i90_74 : m_G 90 74 [v0, v1, v2, v3, v4, v5, .int x0, v7, v8, v9] st μ = m_G 90 76 [v0, v1, v2, v3, v4, v5, .int x0, v7, v8, v9] (.int x0 :: st) μ := g_iload (i := 6) (by decide +kernel) rfl
theorem i90_76 : m_G 90 76 [v0, v1, v2, v3, .int x0, v5, v6, v7, v8, v9] st μ = m_G 90 78 [v0, v1, v2, v3, .int x0, v5, v6, v7, v8, v9] (.int x0 :: st) μ := g_iload (i := 4) (by decide +kernel) rfl
theorem i90_78 : m_G 90 78 L (.int x1 :: .int x0 :: st) μ = if x0 = x1 then m_G 90 81 L st μ else m_G 90 92 L st μ := g_cmpne (off := 14) (by decide +kernel) (by decide)
theorem i90_81 : m_G 90 81 L st μ = m_G 90 82 L (.int (-1) :: st) μ := g_iconst (n := -1) (by decide +kernel) (by decide)
theorem i90_82 : m_G 90 82 [v0, v1, v2, v3, v4, v5, v6, .int x0, v8, v9] st μ = m_G 90 84 [v0, v1, v2, v3, v4, v5, v6, .int x0, v8, v9] (.int x0 :: st) μ := g_iload (i := 7) (by decide +kernel) rfl
theorem i90_84 : m_G 90 84 L st μ = m_G 90 86 L (.int 24 :: st) μ := g_bipush (n := 24) (by decide +kernel) (by decide)
theorem i90_86 : m_G 90 86 L (.int x1 :: .int x0 :: st) μ = m_G 90 87 L (.int (x0 * x1) :: st) μ := g_imul (by decide +kernel)
theorem i90_87 : m_G 90 87 [v0, v1, v2, v3, v4, v5, v6, v7, v8, .int x0] st μ = m_G 90 89 [v0, v1, v2, v3, v4, v5, v6, v7, v8, .int x0] (.int x0 :: st) μ := g_iload (i := 9) (by decide +kernel) rfl
theorem i90_89 : m_G 90 89 L (.int x1 :: .int x0 :: st) μ = m_G 90 90 L (.int (x0 + x1) :: st) μ := g_iadd (by decide +kernel)
theorem i90_90 : m_G 90 90 L (.int x1 :: .int x0 :: st) μ = m_G 90 91 L (.int (x0 - x1) :: st) μ := g_isub (by decide +kernel)
theorem i90_91 : m_G 90 91 L [.int x0] μ = some (some (.int x0), μ) := g_ireti (by decide +kernel) (by decide)
theorem i90_92 : m_G 90 92 [v0, v1, v2, v3, v4, v5, .int x0, v7, v8, v9] st μ = m_G 90 95 [v0, v1, v2, v3, v4, v5, .int (x0 + 1), v7, v8, v9] st μ := g_iinc (i := 6) (n := 1) (by decide +kernel) rfl (by decide) rfl
theorem i90_95 : m_G 90 95 [v0, v1, v2, v3, v4, v5, v6, v7, v8, .int x0] st μ = m_G 90 98 [v0, v1, v2, v3, v4, v5, v6, v7, v8, .int (x0 + 1)] st μ := g_iinc (i := 9) (n := 1) (by decide +kernel) rfl (by decide) rfl
theorem i90_98 : m_G 90 98 L st μ = m_G 90 49 L st μ := g_goto (off := -49) (by decide +kernel) (by decide)
theorem i90_101 : m_G 90 101 [v0, v1, v2, v3, v4, v5, v6, .int x0, v8, v9] st μ = m_G 90 104 [v0, v1, v2, v3, v4, v5, v6, .int (x0 + 1), v8, v9] st μ := g_iinc (i := 7) (n := 1) (by decide +kernel) rfl (by decide) rfl
theorem i90_104 : m_G 90 104 L st μ = m_G 90 14 L st μ := g_goto (off := -90) (by decide +kernel) (by decide)
theorem i90_107 : m_G 90 107 [v0, v1, v2, v3, v4, v5, .int x0, v7, v8, v9] st μ = m_G 90 109 [v0, v1, v2, v3, v4, v5, .int x0, v7, v8, v9] (.int x0 :: st) μ := g_iload (i := 6) (by decide +kernel) rfl
theorem i90_109 : m_G 90 109 L [.int x0] μ = some (some (.int x0), μ) := g_ireti (by decide +kernel) (by decide)
theorem D90 : m_D 90 [.ref a0, .ref a1, .ref a2, .ref a3, .int x3] μ = m_G 90 0 [.ref a0, .ref a1, .ref a2, .ref a3, .int x3, m_d, m_d, m_d, m_d, m_d] [] μ := d_def (by decide) rfl
theorem i91_0 : m_G 91 0 [.ref a0, v1, v2, v3, v4, v5, v6, v7, v8] st μ = m_G 91 1 [.ref a0, v1, v2, v3, v4, v5, v6, v7, v8] (.ref a0 :: st) μ := g_aload_n (i := 0) (by decide +kernel) rfl
theorem i91_1 : m_G 91 1 [v0, .int x0, v2, v3, v4, v5, v6, v7, v8] st μ = m_G 91 2 [v0, .int x0, v2, v3, v4, v5, v6, v7, v8] (.int x0 :: st) μ := g_iload_n (i := 1) (by decide +kernel) rfl
theorem i91_2 (ho : m_oc μ a0 = some 8) : m_G 91 2 L (.int x0 :: .ref a0 :: []) μ = b_c (m_D 68 [.ref a0, .int x0] μ) 91 5 L [] := g_virt (i := 123) (n := 1) (a := a0) (c := 8) (l := [(8, 68)]) (by decide +kernel) (by decide +kernel) rfl rfl (x_call_ok (ws := [1, 1]) (Nat.le_of_ble_eq_true rfl) rfl (by decide +kernel) rfl (by decide +kernel) rfl rfl) ho
theorem i91_5 : m_G 91 5 [v0, v1, v2, v3, v4, v5, v6, v7, v8] (.ref a0 :: st) μ = m_G 91 7 [v0, v1, v2, v3, v4, .ref a0, v6, v7, v8] st μ := g_astore (i := 5) (by decide +kernel) (Nat.le_of_ble_eq_true rfl) rfl
theorem i91_5N : m_G 91 5 [v0, v1, v2, v3, v4, v5, v6, v7, v8] (.null :: st) μ = m_G 91 7 [v0, v1, v2, v3, v4, .null, v6, v7, v8] st μ := g_astoreN (i := 5) (by decide +kernel) (Nat.le_of_ble_eq_true rfl) rfl
theorem i91_7 : m_G 91 7 [.ref a0, v1, v2, v3, v4, v5, v6, v7, v8] st μ = m_G 91 8 [.ref a0, v1, v2, v3, v4, v5, v6, v7, v8] (.ref a0 :: st) μ := g_aload_n (i := 0) (by decide +kernel) rfl
theorem i91_8 : m_G 91 8 [v0, v1, .int x0, v3, v4, v5, v6, v7, v8] st μ = m_G 91 9 [v0, v1, .int x0, v3, v4, v5, v6, v7, v8] (.int x0 :: st) μ := g_iload_n (i := 2) (by decide +kernel) rfl
theorem i91_9 (ho : m_oc μ a0 = some 8) : m_G 91 9 L (.int x0 :: .ref a0 :: []) μ = b_c (m_D 68 [.ref a0, .int x0] μ) 91 12 L [] := g_virt (i := 123) (n := 1) (a := a0) (c := 8) (l := [(8, 68)]) (by decide +kernel) (by decide +kernel) rfl rfl (x_call_ok (ws := [1, 1]) (Nat.le_of_ble_eq_true rfl) rfl (by decide +kernel) rfl (by decide +kernel) rfl rfl) ho
theorem i91_12 : m_G 91 12 [v0, v1, v2, v3, v4, v5, v6, v7, v8] (.ref a0 :: st) μ = m_G 91 14 [v0, v1, v2, v3, v4, v5, .ref a0, v7, v8] st μ := g_astore (i := 6) (by decide +kernel) (Nat.le_of_ble_eq_true rfl) rfl
theorem i91_12N : m_G 91 12 [v0, v1, v2, v3, v4, v5, v6, v7, v8] (.null :: st) μ = m_G 91 14 [v0, v1, v2, v3, v4, v5, .null, v7, v8] st μ := g_astoreN (i := 6) (by decide +kernel) (Nat.le_of_ble_eq_true rfl) rfl
theorem i91_14 : m_G 91 14 [.ref a0, v1, v2, v3, v4, v5, v6, v7, v8] st μ = m_G 91 15 [.ref a0, v1, v2, v3, v4, v5, v6, v7, v8] (.ref a0 :: st) μ := g_aload_n (i := 0) (by decide +kernel) rfl
theorem i91_15 : m_G 91 15 [v0, v1, v2, .int x0, v4, v5, v6, v7, v8] st μ = m_G 91 16 [v0, v1, v2, .int x0, v4, v5, v6, v7, v8] (.int x0 :: st) μ := g_iload_n (i := 3) (by decide +kernel) rfl
theorem i91_16 (ho : m_oc μ a0 = some 8) : m_G 91 16 L (.int x0 :: .ref a0 :: []) μ = b_c (m_D 67 [.ref a0, .int x0] μ) 91 19 L [] := g_virt (i := 130) (n := 1) (a := a0) (c := 8) (l := [(8, 67)]) (by decide +kernel) (by decide +kernel) rfl rfl (x_call_ok (ws := [1, 1]) (Nat.le_of_ble_eq_true rfl) rfl (by decide +kernel) rfl (by decide +kernel) rfl rfl) ho
theorem i91_19 : m_G 91 19 [v0, v1, v2, v3, v4, v5, v6, v7, v8] (.ref a0 :: st) μ = m_G 91 21 [v0, v1, v2, v3, v4, v5, v6, .ref a0, v8] st μ := g_astore (i := 7) (by decide +kernel) (Nat.le_of_ble_eq_true rfl) rfl
theorem i91_19N : m_G 91 19 [v0, v1, v2, v3, v4, v5, v6, v7, v8] (.null :: st) μ = m_G 91 21 [v0, v1, v2, v3, v4, v5, v6, .null, v8] st μ := g_astoreN (i := 7) (by decide +kernel) (Nat.le_of_ble_eq_true rfl) rfl
theorem i91_21 : m_G 91 21 [v0, v1, v2, v3, v4, .ref a0, v6, v7, v8] st μ = m_G 91 23 [v0, v1, v2, v3, v4, .ref a0, v6, v7, v8] (.ref a0 :: st) μ := g_aload (i := 5) (by decide +kernel) rfl
theorem i91_21N : m_G 91 21 [v0, v1, v2, v3, v4, .null, v6, v7, v8] st μ = m_G 91 23 [v0, v1, v2, v3, v4, .null, v6, v7, v8] (.null :: st) μ := g_aloadN (i := 5) (by decide +kernel) rfl
theorem i91_23 : m_G 91 23 L (.ref a0 :: st) μ = m_G 91 26 L st μ := g_ifnull (off := 13) (by decide +kernel)
theorem i91_23N : m_G 91 23 L (.null :: st) μ = m_G 91 36 L st μ := g_ifnullN (off := 13) (by decide +kernel) (by decide)
theorem i91_26 : m_G 91 26 [v0, v1, v2, v3, v4, v5, .ref a0, v7, v8] st μ = m_G 91 28 [v0, v1, v2, v3, v4, v5, .ref a0, v7, v8] (.ref a0 :: st) μ := g_aload (i := 6) (by decide +kernel) rfl
theorem i91_26N : m_G 91 26 [v0, v1, v2, v3, v4, v5, .null, v7, v8] st μ = m_G 91 28 [v0, v1, v2, v3, v4, v5, .null, v7, v8] (.null :: st) μ := g_aloadN (i := 6) (by decide +kernel) rfl
theorem i91_28 : m_G 91 28 L (.ref a0 :: st) μ = m_G 91 31 L st μ := g_ifnull (off := 8) (by decide +kernel)
theorem i91_28N : m_G 91 28 L (.null :: st) μ = m_G 91 36 L st μ := g_ifnullN (off := 8) (by decide +kernel) (by decide)
theorem i91_31 : m_G 91 31 [v0, v1, v2, v3, v4, v5, v6, .ref a0, v8] st μ = m_G 91 33 [v0, v1, v2, v3, v4, v5, v6, .ref a0, v8] (.ref a0 :: st) μ := g_aload (i := 7) (by decide +kernel) rfl
theorem i91_31N : m_G 91 31 [v0, v1, v2, v3, v4, v5, v6, .null, v8] st μ = m_G 91 33 [v0, v1, v2, v3, v4, v5, v6, .null, v8] (.null :: st) μ := g_aloadN (i := 7) (by decide +kernel) rfl
theorem i91_33 : m_G 91 33 L (.ref a0 :: st) μ = m_G 91 39 L st μ := g_ifnonnull (off := 6) (by decide +kernel) (by decide)
theorem i91_33N : m_G 91 33 L (.null :: st) μ = m_G 91 36 L st μ := g_ifnonnullN (off := 6) (by decide +kernel)
theorem i91_36 : m_G 91 36 L st μ = m_G 91 38 L (.int (-101) :: st) μ := g_bipush (n := -101) (by decide +kernel) (by decide)
theorem i91_38 : m_G 91 38 L [.int x0] μ = some (some (.int x0), μ) := g_ireti (by decide +kernel) (by decide)
theorem i91_39 : m_G 91 39 [v0, v1, v2, v3, v4, .ref a0, v6, v7, v8] st μ = m_G 91 41 [v0, v1, v2, v3, v4, .ref a0, v6, v7, v8] (.ref a0 :: st) μ := g_aload (i := 5) (by decide +kernel) rfl
theorem i91_39N : m_G 91 39 [v0, v1, v2, v3, v4, .null, v6, v7, v8] st μ = m_G 91 41 [v0, v1, v2, v3, v4, .null, v6, v7, v8] (.null :: st) μ := g_aloadN (i := 5) (by decide +kernel) rfl
theorem i91_41 : m_G 91 41 [v0, v1, v2, v3, v4, v5, v6, .ref a0, v8] st μ = m_G 91 43 [v0, v1, v2, v3, v4, v5, v6, .ref a0, v8] (.ref a0 :: st) μ := g_aload (i := 7) (by decide +kernel) rfl
theorem i91_41N : m_G 91 41 [v0, v1, v2, v3, v4, v5, v6, .null, v8] st μ = m_G 91 43 [v0, v1, v2, v3, v4, v5, v6, .null, v8] (.null :: st) μ := g_aloadN (i := 7) (by decide +kernel) rfl
theorem i91_43 : m_G 91 43 L st μ = m_G 91 44 L (.int 1 :: st) μ := g_iconst (n := 1) (by decide +kernel) (by decide)
theorem i91_44 (ho : m_oc μ a0 = some 6) : m_G 91 44 L (.int x1 :: .ref a1 :: .ref a0 :: []) μ = b_c (m_D 49 [.ref a0, .ref a1, .int x1] μ) 91 47 L [] := g_virt (i := 158) (n := 2) (a := a0) (c := 6) (l := [(6, 49)]) (by decide +kernel) (by decide +kernel) rfl rfl (x_call_ok (ws := [1, 1, 1]) (Nat.le_of_ble_eq_true rfl) rfl (by decide +kernel) rfl (by decide +kernel) rfl rfl) ho
theorem i91_47 : m_G 91 47 [v0, v1, v2, v3, .int x0, v5, v6, v7, v8] st μ = m_G 91 49 [v0, v1, v2, v3, .int x0, v5, v6, v7, v8] (.int x0 :: st) μ := g_iload (i := 4) (by decide +kernel) rfl
theorem i91_49 : m_G 91 49 L (.int x1 :: .int x0 :: []) μ = b_c (m_D 98 [.int x0, .int x1] μ) 91 52 L [] := g_stat (i := 162) (n := 2) (by decide +kernel) (by decide +kernel) (by decide) (x_call_ok (ws := [1, 1]) (Nat.le_of_ble_eq_true rfl) rfl (by decide +kernel) rfl (by decide +kernel) rfl rfl)
theorem i91_52 : m_G 91 52 [v0, v1, v2, v3, v4, v5, v6, v7, v8] (.int x0 :: st) μ = m_G 91 54 [v0, v1, v2, v3, v4, v5, v6, v7, .int x0] st μ := g_istore (i := 8) (by decide +kernel) (Nat.le_of_ble_eq_true rfl) rfl
theorem i91_54 : m_G 91 54 [v0, v1, v2, v3, v4, v5, v6, v7, .int x0] st μ = m_G 91 56 [v0, v1, v2, v3, v4, v5, v6, v7, .int x0] (.int x0 :: st) μ := g_iload (i := 8) (by decide +kernel) rfl
theorem i91_56 : m_G 91 56 L st μ = m_G 91 57 L (.int (-1) :: st) μ := g_iconst (n := -1) (by decide +kernel) (by decide)
theorem i91_57 : m_G 91 57 L (.int x1 :: .int x0 :: st) μ = if x0 = x1 then m_G 91 60 L st μ else m_G 91 65 L st μ := g_cmpne (off := 8) (by decide +kernel) (by decide)
theorem i91_60 : m_G 91 60 L st μ = m_G 91 62 L (.int (-2) :: st) μ := g_bipush (n := -2) (by decide +kernel) (by decide)
theorem i91_62 : m_G 91 62 L st μ = m_G 91 74 L st μ := g_goto (off := 12) (by decide +kernel) (by decide)
theorem i91_65 : m_G 91 65 [v0, v1, v2, v3, v4, v5, .ref a0, v7, v8] st μ = m_G 91 67 [v0, v1, v2, v3, v4, v5, .ref a0, v7, v8] (.ref a0 :: st) μ := g_aload (i := 6) (by decide +kernel) rfl
theorem i91_65N : m_G 91 65 [v0, v1, v2, v3, v4, v5, .null, v7, v8] st μ = m_G 91 67 [v0, v1, v2, v3, v4, v5, .null, v7, v8] (.null :: st) μ := g_aloadN (i := 6) (by decide +kernel) rfl
theorem i91_67 : m_G 91 67 [v0, v1, v2, v3, v4, v5, v6, .ref a0, v8] st μ = m_G 91 69 [v0, v1, v2, v3, v4, v5, v6, .ref a0, v8] (.ref a0 :: st) μ := g_aload (i := 7) (by decide +kernel) rfl
theorem i91_67N : m_G 91 67 [v0, v1, v2, v3, v4, v5, v6, .null, v8] st μ = m_G 91 69 [v0, v1, v2, v3, v4, v5, v6, .null, v8] (.null :: st) μ := g_aloadN (i := 7) (by decide +kernel) rfl
theorem i91_69 : m_G 91 69 [v0, v1, v2, v3, v4, v5, v6, v7, .int x0] st μ = m_G 91 71 [v0, v1, v2, v3, v4, v5, v6, v7, .int x0] (.int x0 :: st) μ := g_iload (i := 8) (by decide +kernel) rfl
theorem i91_71 (ho : m_oc μ a0 = some 6) : m_G 91 71 L (.int x1 :: .ref a1 :: .ref a0 :: []) μ = b_c (m_D 50 [.ref a0, .ref a1, .int x1] μ) 91 74 L [] := g_virt (i := 255) (n := 2) (a := a0) (c := 6) (l := [(6, 50)]) (by decide +kernel) (by decide +kernel) rfl rfl (x_call_ok (ws := [1, 1, 1]) (Nat.le_of_ble_eq_true rfl) rfl (by decide +kernel) rfl (by decide +kernel) rfl rfl) ho
theorem i91_74 : m_G 91 74 L [.int x0] μ = some (some (.int x0), μ) := g_ireti (by decide +kernel) (by decide)
theorem D91 : m_D 91 [.ref a0, .int x0, .int x1, .int x2, .int x3] μ = m_G 91 0 [.ref a0, .int x0, .int x1, .int x2, .int x3, m_d, m_d, m_d, m_d] [] μ := d_def (by decide) rfl
theorem i92_0 : m_G 92 0 [v0, .int x0] st μ = m_G 92 1 [v0, .int x0] (.int x0 :: st) μ := g_iload_n (i := 1) (by decide +kernel) rfl
theorem i92_1_0 : m_G 92 1 L (.int 0 :: st) μ = m_G 92 44 L st μ := g_tab (dd := 69) (lo := 0) (hi := 6) (offs := #[43, 48, 53, 58, 63, 63, 63]) (len := 43) (off := 43) (by decide +kernel) (by decide) (by decide) (by decide)
theorem i92_1_1 : m_G 92 1 L (.int 1 :: st) μ = m_G 92 49 L st μ := g_tab (dd := 69) (lo := 0) (hi := 6) (offs := #[43, 48, 53, 58, 63, 63, 63]) (len := 43) (off := 48) (by decide +kernel) (by decide) (by decide) (by decide)
theorem i92_1_2 : m_G 92 1 L (.int 2 :: st) μ = m_G 92 54 L st μ := g_tab (dd := 69) (lo := 0) (hi := 6) (offs := #[43, 48, 53, 58, 63, 63, 63]) (len := 43) (off := 53) (by decide +kernel) (by decide) (by decide) (by decide)
theorem i92_1_3 : m_G 92 1 L (.int 3 :: st) μ = m_G 92 59 L st μ := g_tab (dd := 69) (lo := 0) (hi := 6) (offs := #[43, 48, 53, 58, 63, 63, 63]) (len := 43) (off := 58) (by decide +kernel) (by decide) (by decide) (by decide)
theorem i92_1_4 : m_G 92 1 L (.int 4 :: st) μ = m_G 92 64 L st μ := g_tab (dd := 69) (lo := 0) (hi := 6) (offs := #[43, 48, 53, 58, 63, 63, 63]) (len := 43) (off := 63) (by decide +kernel) (by decide) (by decide) (by decide)
theorem i92_1_5 : m_G 92 1 L (.int 5 :: st) μ = m_G 92 64 L st μ := g_tab (dd := 69) (lo := 0) (hi := 6) (offs := #[43, 48, 53, 58, 63, 63, 63]) (len := 43) (off := 63) (by decide +kernel) (by decide) (by decide) (by decide)
theorem i92_1_6 : m_G 92 1 L (.int 6 :: st) μ = m_G 92 64 L st μ := g_tab (dd := 69) (lo := 0) (hi := 6) (offs := #[43, 48, 53, 58, 63, 63, 63]) (len := 43) (off := 63) (by decide +kernel) (by decide) (by decide) (by decide)
theorem i92_1_d (h : x0.toInt < 0 ∨ 6 < x0.toInt) : m_G 92 1 L (.int x0 :: st) μ = m_G 92 70 L st μ := g_tabO (dd := 69) (lo := 0) (hi := 6) (offs := #[43, 48, 53, 58, 63, 63, 63]) (len := 43) (by decide +kernel) h (by decide)
theorem i92_44 : m_G 92 44 [.ref a0, v1] st μ = m_G 92 45 [.ref a0, v1] (.ref a0 :: st) μ := g_aload_n (i := 0) (by decide +kernel) rfl
theorem i92_45 : m_G 92 45 L (.ref a0 :: st) μ = b_v (m_gf μ a0 8 3) 92 48 L st μ := g_getf (i := 101) (by decide +kernel) (by decide +kernel)
theorem i92_48 : m_G 92 48 L [.int x0] μ = some (some (.int x0), μ) := g_ireti (by decide +kernel) (by decide)
theorem i92_49 : m_G 92 49 [.ref a0, v1] st μ = m_G 92 50 [.ref a0, v1] (.ref a0 :: st) μ := g_aload_n (i := 0) (by decide +kernel) rfl
theorem i92_50 : m_G 92 50 L (.ref a0 :: st) μ = b_v (m_gf μ a0 8 5) 92 53 L st μ := g_getf (i := 114) (by decide +kernel) (by decide +kernel)
theorem i92_53 : m_G 92 53 L [.int x0] μ = some (some (.int x0), μ) := g_ireti (by decide +kernel) (by decide)
theorem i92_54 : m_G 92 54 [.ref a0, v1] st μ = m_G 92 55 [.ref a0, v1] (.ref a0 :: st) μ := g_aload_n (i := 0) (by decide +kernel) rfl
theorem i92_55 : m_G 92 55 L (.ref a0 :: st) μ = b_v (m_gf μ a0 8 7) 92 58 L st μ := g_getf (i := 120) (by decide +kernel) (by decide +kernel)
theorem i92_58 : m_G 92 58 L [.int x0] μ = some (some (.int x0), μ) := g_ireti (by decide +kernel) (by decide)
theorem i92_59 : m_G 92 59 [.ref a0, v1] st μ = m_G 92 60 [.ref a0, v1] (.ref a0 :: st) μ := g_aload_n (i := 0) (by decide +kernel) rfl
theorem i92_60 : m_G 92 60 L (.ref a0 :: st) μ = b_v (m_gf μ a0 8 1) 92 63 L st μ := g_getf (i := 74) (by decide +kernel) (by decide +kernel)
theorem i92_63 : m_G 92 63 L [.int x0] μ = some (some (.int x0), μ) := g_ireti (by decide +kernel) (by decide)
theorem i92_64 : m_G 92 64 [.ref a0, v1] st μ = m_G 92 65 [.ref a0, v1] (.ref a0 :: st) μ := g_aload_n (i := 0) (by decide +kernel) rfl
theorem i92_65 : m_G 92 65 [v0, .int x0] st μ = m_G 92 66 [v0, .int x0] (.int x0 :: st) μ := g_iload_n (i := 1) (by decide +kernel) rfl
theorem i92_66 (ho : m_oc μ a0 = some 8) : m_G 92 66 L (.int x0 :: .ref a0 :: []) μ = b_c (m_D 93 [.ref a0, .int x0] μ) 92 69 L [] := g_virt (i := 265) (n := 1) (a := a0) (c := 8) (l := [(8, 93)]) (by decide +kernel) (by decide +kernel) rfl rfl (x_call_ok (ws := [1, 1]) (Nat.le_of_ble_eq_true rfl) rfl (by decide +kernel) rfl (by decide +kernel) rfl rfl) ho
theorem i92_69 : m_G 92 69 L [.int x0] μ = some (some (.int x0), μ) := g_ireti (by decide +kernel) (by decide)
theorem i92_70 : m_G 92 70 L st μ = m_G 92 72 L (.int (-102) :: st) μ := g_bipush (n := -102) (by decide +kernel) (by decide)
theorem i92_72 : m_G 92 72 L [.int x0] μ = some (some (.int x0), μ) := g_ireti (by decide +kernel) (by decide)
theorem D92 : m_D 92 [.ref a0, .int x0] μ = m_G 92 0 [.ref a0, .int x0] [] μ := d_def (by decide) rfl
theorem i93_0 : m_G 93 0 L st μ = m_G 93 1 L (.int 0 :: st) μ := g_iconst (n := 0) (by decide +kernel) (by decide)
theorem i93_1 : m_G 93 1 [v0, v1, v2, v3, v4] (.int x0 :: st) μ = m_G 93 2 [v0, v1, .int x0, v3, v4] st μ := g_istore_n (i := 2) (by decide +kernel) (Nat.le_of_ble_eq_true rfl) rfl
theorem i93_2 : m_G 93 2 L st μ = m_G 93 3 L (.int 0 :: st) μ := g_iconst (n := 0) (by decide +kernel) (by decide)
theorem i93_3 : m_G 93 3 [v0, v1, v2, v3, v4] (.int x0 :: st) μ = m_G 93 4 [v0, v1, v2, .int x0, v4] st μ := g_istore_n (i := 3) (by decide +kernel) (Nat.le_of_ble_eq_true rfl) rfl
theorem i93_4 : m_G 93 4 [v0, v1, v2, .int x0, v4] st μ = m_G 93 5 [v0, v1, v2, .int x0, v4] (.int x0 :: st) μ := g_iload_n (i := 3) (by decide +kernel) rfl
theorem i93_5 : m_G 93 5 [.ref a0, v1, v2, v3, v4] st μ = m_G 93 6 [.ref a0, v1, v2, v3, v4] (.ref a0 :: st) μ := g_aload_n (i := 0) (by decide +kernel) rfl
theorem i93_6 : m_G 93 6 L (.ref a0 :: st) μ = b_v (m_gf μ a0 8 3) 93 9 L st μ := g_getf (i := 101) (by decide +kernel) (by decide +kernel)
theorem i93_9 : m_G 93 9 L (.int x1 :: .int x0 :: st) μ = if x0 < x1 then m_G 93 12 L st μ else m_G 93 66 L st μ := g_cmpge (off := 57) (by decide +kernel) (by decide)
theorem i93_12 : m_G 93 12 [.ref a0, v1, v2, v3, v4] st μ = m_G 93 13 [.ref a0, v1, v2, v3, v4] (.ref a0 :: st) μ := g_aload_n (i := 0) (by decide +kernel) rfl
theorem i93_13 : m_G 93 13 L (.ref a0 :: st) μ = b_v (m_gf μ a0 8 2) 93 16 L st μ := g_getf (i := 15) (by decide +kernel) (by decide +kernel)
theorem i93_16 : m_G 93 16 [v0, v1, v2, .int x0, v4] st μ = m_G 93 17 [v0, v1, v2, .int x0, v4] (.int x0 :: st) μ := g_iload_n (i := 3) (by decide +kernel) rfl
theorem i93_17 : m_G 93 17 L (.int x0 :: .ref a0 :: st) μ = b_r (m_gr μ a0 x0) 93 18 L st μ := g_aald (by decide +kernel)
theorem i93_18 : m_G 93 18 [v0, v1, v2, v3, v4] (.ref a0 :: st) μ = m_G 93 20 [v0, v1, v2, v3, .ref a0] st μ := g_astore (i := 4) (by decide +kernel) (Nat.le_of_ble_eq_true rfl) rfl
theorem i93_20 : m_G 93 20 [v0, v1, .int x0, v3, v4] st μ = m_G 93 21 [v0, v1, .int x0, v3, v4] (.int x0 :: st) μ := g_iload_n (i := 2) (by decide +kernel) rfl
theorem i93_21 : m_G 93 21 [v0, .int x0, v2, v3, v4] st μ = m_G 93 22 [v0, .int x0, v2, v3, v4] (.int x0 :: st) μ := g_iload_n (i := 1) (by decide +kernel) rfl
theorem i93_22 : m_G 93 22 L st μ = m_G 93 23 L (.int 4 :: st) μ := g_iconst (n := 4) (by decide +kernel) (by decide)
theorem i93_23 : m_G 93 23 L (.int x1 :: .int x0 :: st) μ = if x0 = x1 then m_G 93 26 L st μ else m_G 93 37 L st μ := g_cmpne (off := 14) (by decide +kernel) (by decide)
theorem i93_26 : m_G 93 26 [v0, v1, v2, v3, .ref a0] st μ = m_G 93 28 [v0, v1, v2, v3, .ref a0] (.ref a0 :: st) μ := g_aload (i := 4) (by decide +kernel) rfl
theorem i93_28 : m_G 93 28 L (.ref a0 :: st) μ = b_v (m_gf μ a0 3 11) 93 31 L st μ := g_getf (i := 268) (by decide +kernel) (by decide +kernel)
theorem i93_31 : m_G 93 31 L (.int x0 :: [w0]) μ = b_c (m_D 169 [.int x0] μ) 93 34 L [w0] := g_stat (i := 149) (n := 1) (by decide +kernel) (by decide +kernel) (by decide) (x_call_ok (ws := [1]) (Nat.le_of_ble_eq_true rfl) rfl (by decide +kernel) rfl (by decide +kernel) rfl rfl)
theorem i93_34 : m_G 93 34 L st μ = m_G 93 58 L st μ := g_goto (off := 24) (by decide +kernel) (by decide)
theorem i93_37 : m_G 93 37 [v0, .int x0, v2, v3, v4] st μ = m_G 93 38 [v0, .int x0, v2, v3, v4] (.int x0 :: st) μ := g_iload_n (i := 1) (by decide +kernel) rfl
theorem i93_38 : m_G 93 38 L st μ = m_G 93 39 L (.int 5 :: st) μ := g_iconst (n := 5) (by decide +kernel) (by decide)
theorem i93_39 : m_G 93 39 L (.int x1 :: .int x0 :: st) μ = if x0 = x1 then m_G 93 42 L st μ else m_G 93 53 L st μ := g_cmpne (off := 14) (by decide +kernel) (by decide)
theorem i93_42 : m_G 93 42 [v0, v1, v2, v3, .ref a0] st μ = m_G 93 44 [v0, v1, v2, v3, .ref a0] (.ref a0 :: st) μ := g_aload (i := 4) (by decide +kernel) rfl
theorem i93_44 : m_G 93 44 L (.ref a0 :: st) μ = b_v (m_gf μ a0 3 12) 93 47 L st μ := g_getf (i := 271) (by decide +kernel) (by decide +kernel)
theorem i93_47 : m_G 93 47 L (.int x0 :: [w0]) μ = b_c (m_D 169 [.int x0] μ) 93 50 L [w0] := g_stat (i := 149) (n := 1) (by decide +kernel) (by decide +kernel) (by decide) (x_call_ok (ws := [1]) (Nat.le_of_ble_eq_true rfl) rfl (by decide +kernel) rfl (by decide +kernel) rfl rfl)
theorem i93_50 : m_G 93 50 L st μ = m_G 93 58 L st μ := g_goto (off := 8) (by decide +kernel) (by decide)
theorem i93_53 : m_G 93 53 [v0, v1, v2, v3, .ref a0] st μ = m_G 93 55 [v0, v1, v2, v3, .ref a0] (.ref a0 :: st) μ := g_aload (i := 4) (by decide +kernel) rfl
theorem i93_55 : m_G 93 55 L (.ref a0 :: st) μ = b_v (m_gf μ a0 3 0) 93 58 L st μ := g_getf (i := 262) (by decide +kernel) (by decide +kernel)
theorem i93_58 : m_G 93 58 L (.int x1 :: .int x0 :: st) μ = m_G 93 59 L (.int (x0 + x1) :: st) μ := g_iadd (by decide +kernel)
theorem i93_59 : m_G 93 59 [v0, v1, v2, v3, v4] (.int x0 :: st) μ = m_G 93 60 [v0, v1, .int x0, v3, v4] st μ := g_istore_n (i := 2) (by decide +kernel) (Nat.le_of_ble_eq_true rfl) rfl
theorem i93_60 : m_G 93 60 [v0, v1, v2, .int x0, v4] st μ = m_G 93 63 [v0, v1, v2, .int (x0 + 1), v4] st μ := g_iinc (i := 3) (n := 1) (by decide +kernel) rfl (by decide) rfl
theorem i93_63 : m_G 93 63 L st μ = m_G 93 4 L st μ := g_goto (off := -59) (by decide +kernel) (by decide)
theorem i93_66 : m_G 93 66 [v0, v1, .int x0, v3, v4] st μ = m_G 93 67 [v0, v1, .int x0, v3, v4] (.int x0 :: st) μ := g_iload_n (i := 2) (by decide +kernel) rfl
theorem i93_67 : m_G 93 67 L [.int x0] μ = some (some (.int x0), μ) := g_ireti (by decide +kernel) (by decide)
theorem D93 : m_D 93 [.ref a0, .int x0] μ = m_G 93 0 [.ref a0, .int x0, m_d, m_d, m_d] [] μ := d_def (by decide) rfl
theorem i94_0 : m_G 94 0 L st μ = m_G 94 3 L (.long (331) :: st) μ := g_ldc2_w (i := 274) (by decide +kernel) (by decide +kernel)
theorem i94_3 : m_G 94 3 [v0, v1, v2, v3, v4] (.long l0 :: st) μ = m_G 94 4 [v0, .long l0, m_d, v3, v4] st μ := g_lstore_n (i := 1) (by decide +kernel) ⟨Nat.le_of_ble_eq_true rfl, by decide⟩ rfl
theorem i94_4 : m_G 94 4 L st μ = m_G 94 5 L (.int 0 :: st) μ := g_iconst (n := 0) (by decide +kernel) (by decide)
theorem i94_5 : m_G 94 5 [v0, v1, v2, v3, v4] (.int x0 :: st) μ = m_G 94 6 [v0, v1, v2, .int x0, v4] st μ := g_istore_n (i := 3) (by decide +kernel) (Nat.le_of_ble_eq_true rfl) rfl
theorem i94_6 : m_G 94 6 [v0, v1, v2, .int x0, v4] st μ = m_G 94 7 [v0, v1, v2, .int x0, v4] (.int x0 :: st) μ := g_iload_n (i := 3) (by decide +kernel) rfl
theorem i94_7 : m_G 94 7 [.ref a0, v1, v2, v3, v4] st μ = m_G 94 8 [.ref a0, v1, v2, v3, v4] (.ref a0 :: st) μ := g_aload_n (i := 0) (by decide +kernel) rfl
theorem i94_8 : m_G 94 8 L (.ref a0 :: st) μ = b_v (m_gf μ a0 8 3) 94 11 L st μ := g_getf (i := 101) (by decide +kernel) (by decide +kernel)
theorem i94_11 : m_G 94 11 L (.int x1 :: .int x0 :: st) μ = if x0 < x1 then m_G 94 14 L st μ else m_G 94 32 L st μ := g_cmpge (off := 21) (by decide +kernel) (by decide)
theorem i94_14 : m_G 94 14 [.ref a0, v1, v2, v3, v4] st μ = m_G 94 15 [.ref a0, v1, v2, v3, v4] (.ref a0 :: st) μ := g_aload_n (i := 0) (by decide +kernel) rfl
theorem i94_15 : m_G 94 15 [v0, .long l0, v2, v3, v4] st μ = m_G 94 16 [v0, .long l0, v2, v3, v4] (.long l0 :: st) μ := g_lload_n (i := 1) (by decide +kernel) rfl
theorem i94_16 : m_G 94 16 [.ref a0, v1, v2, v3, v4] st μ = m_G 94 17 [.ref a0, v1, v2, v3, v4] (.ref a0 :: st) μ := g_aload_n (i := 0) (by decide +kernel) rfl
theorem i94_17 : m_G 94 17 L (.ref a0 :: st) μ = b_v (m_gf μ a0 8 2) 94 20 L st μ := g_getf (i := 15) (by decide +kernel) (by decide +kernel)
theorem i94_20 : m_G 94 20 [v0, v1, v2, .int x0, v4] st μ = m_G 94 21 [v0, v1, v2, .int x0, v4] (.int x0 :: st) μ := g_iload_n (i := 3) (by decide +kernel) rfl
theorem i94_21 : m_G 94 21 L (.int x0 :: .ref a0 :: st) μ = b_r (m_gr μ a0 x0) 94 22 L st μ := g_aald (by decide +kernel)
theorem i94_22 (ho : m_oc μ a0 = some 8) : m_G 94 22 L (.ref a2 :: .long l0 :: .ref a0 :: []) μ = b_c (m_D 95 [.ref a0, .long l0, .ref a2] μ) 94 25 L [] := g_virt (i := 276) (n := 2) (a := a0) (c := 8) (l := [(8, 95)]) (by decide +kernel) (by decide +kernel) rfl rfl (x_call_ok (ws := [1, 2, 1]) (Nat.le_of_ble_eq_true rfl) rfl (by decide +kernel) rfl (by decide +kernel) rfl rfl) ho
theorem i94_25 : m_G 94 25 [v0, v1, v2, v3, v4] (.long l0 :: st) μ = m_G 94 26 [v0, .long l0, m_d, v3, v4] st μ := g_lstore_n (i := 1) (by decide +kernel) ⟨Nat.le_of_ble_eq_true rfl, by decide⟩ rfl
theorem i94_26 : m_G 94 26 [v0, v1, v2, .int x0, v4] st μ = m_G 94 29 [v0, v1, v2, .int (x0 + 1), v4] st μ := g_iinc (i := 3) (n := 1) (by decide +kernel) rfl (by decide) rfl
theorem i94_29 : m_G 94 29 L st μ = m_G 94 6 L st μ := g_goto (off := -23) (by decide +kernel) (by decide)
theorem i94_32 : m_G 94 32 L st μ = m_G 94 33 L (.int 0 :: st) μ := g_iconst (n := 0) (by decide +kernel) (by decide)
theorem i94_33 : m_G 94 33 [v0, v1, v2, v3, v4] (.int x0 :: st) μ = m_G 94 34 [v0, v1, v2, .int x0, v4] st μ := g_istore_n (i := 3) (by decide +kernel) (Nat.le_of_ble_eq_true rfl) rfl
theorem i94_34 : m_G 94 34 [v0, v1, v2, .int x0, v4] st μ = m_G 94 35 [v0, v1, v2, .int x0, v4] (.int x0 :: st) μ := g_iload_n (i := 3) (by decide +kernel) rfl
theorem i94_35 : m_G 94 35 [.ref a0, v1, v2, v3, v4] st μ = m_G 94 36 [.ref a0, v1, v2, v3, v4] (.ref a0 :: st) μ := g_aload_n (i := 0) (by decide +kernel) rfl
theorem i94_36 : m_G 94 36 L (.ref a0 :: st) μ = b_v (m_gf μ a0 8 5) 94 39 L st μ := g_getf (i := 114) (by decide +kernel) (by decide +kernel)
theorem i94_39 : m_G 94 39 L (.int x1 :: .int x0 :: st) μ = if x0 < x1 then m_G 94 42 L st μ else m_G 94 113 L st μ := g_cmpge (off := 74) (by decide +kernel) (by decide)
theorem i94_42 : m_G 94 42 L st μ = m_G 94 45 L (.long (31) :: st) μ := g_ldc2_w (i := 280) (by decide +kernel) (by decide +kernel)
theorem i94_45 : m_G 94 45 [v0, .long l0, v2, v3, v4] st μ = m_G 94 46 [v0, .long l0, v2, v3, v4] (.long l0 :: st) μ := g_lload_n (i := 1) (by decide +kernel) rfl
theorem i94_46 : m_G 94 46 L (.long l1 :: .long l0 :: st) μ = m_G 94 47 L (.long (l0 * l1) :: st) μ := g_lmul (by decide +kernel)
theorem i94_47 : m_G 94 47 [.ref a0, v1, v2, v3, v4] st μ = m_G 94 48 [.ref a0, v1, v2, v3, v4] (.ref a0 :: st) μ := g_aload_n (i := 0) (by decide +kernel) rfl
theorem i94_48 : m_G 94 48 L (.ref a0 :: st) μ = b_v (m_gf μ a0 8 4) 94 51 L st μ := g_getf (i := 21) (by decide +kernel) (by decide +kernel)
theorem i94_51 : m_G 94 51 [v0, v1, v2, .int x0, v4] st μ = m_G 94 52 [v0, v1, v2, .int x0, v4] (.int x0 :: st) μ := g_iload_n (i := 3) (by decide +kernel) rfl
theorem i94_52 : m_G 94 52 L (.int x0 :: .ref a0 :: st) μ = b_r (m_gr μ a0 x0) 94 53 L st μ := g_aald (by decide +kernel)
theorem i94_53 : m_G 94 53 L (.ref a0 :: st) μ = b_v (m_gf μ a0 6 0) 94 56 L st μ := g_getf (i := 282) (by decide +kernel) (by decide +kernel)
theorem i94_56 : m_G 94 56 L (.int x0 :: st) μ = m_G 94 57 L (.long x0.toInt64 :: st) μ := g_i2l (by decide +kernel)
theorem i94_57 : m_G 94 57 L (.long l1 :: .long l0 :: st) μ = m_G 94 58 L (.long (l0 + l1) :: st) μ := g_ladd (by decide +kernel)
theorem i94_58 : m_G 94 58 [v0, v1, v2, v3, v4] (.long l0 :: st) μ = m_G 94 59 [v0, .long l0, m_d, v3, v4] st μ := g_lstore_n (i := 1) (by decide +kernel) ⟨Nat.le_of_ble_eq_true rfl, by decide⟩ rfl
theorem i94_59 : m_G 94 59 L st μ = m_G 94 60 L (.int 0 :: st) μ := g_iconst (n := 0) (by decide +kernel) (by decide)
theorem i94_60 : m_G 94 60 [v0, v1, v2, v3, v4] (.int x0 :: st) μ = m_G 94 62 [v0, v1, v2, v3, .int x0] st μ := g_istore (i := 4) (by decide +kernel) (Nat.le_of_ble_eq_true rfl) rfl
theorem i94_62 : m_G 94 62 [v0, v1, v2, v3, .int x0] st μ = m_G 94 64 [v0, v1, v2, v3, .int x0] (.int x0 :: st) μ := g_iload (i := 4) (by decide +kernel) rfl
theorem i94_64 : m_G 94 64 [.ref a0, v1, v2, v3, v4] st μ = m_G 94 65 [.ref a0, v1, v2, v3, v4] (.ref a0 :: st) μ := g_aload_n (i := 0) (by decide +kernel) rfl
theorem i94_65 : m_G 94 65 L (.ref a0 :: st) μ = b_v (m_gf μ a0 8 3) 94 68 L st μ := g_getf (i := 101) (by decide +kernel) (by decide +kernel)
theorem i94_68 : m_G 94 68 L (.int x1 :: .int x0 :: st) μ = if x0 < x1 then m_G 94 71 L st μ else m_G 94 107 L st μ := g_cmpge (off := 39) (by decide +kernel) (by decide)
theorem i94_71 : m_G 94 71 L st μ = m_G 94 74 L (.long (31) :: st) μ := g_ldc2_w (i := 280) (by decide +kernel) (by decide +kernel)
theorem i94_74 : m_G 94 74 [v0, .long l0, v2, v3, v4] st μ = m_G 94 75 [v0, .long l0, v2, v3, v4] (.long l0 :: st) μ := g_lload_n (i := 1) (by decide +kernel) rfl
theorem i94_75 : m_G 94 75 L (.long l1 :: .long l0 :: st) μ = m_G 94 76 L (.long (l0 * l1) :: st) μ := g_lmul (by decide +kernel)
theorem i94_76 : m_G 94 76 [.ref a0, v1, v2, v3, v4] st μ = m_G 94 77 [.ref a0, v1, v2, v3, v4] (.ref a0 :: st) μ := g_aload_n (i := 0) (by decide +kernel) rfl
theorem i94_77 : m_G 94 77 [v0, v1, v2, .int x0, v4] st μ = m_G 94 78 [v0, v1, v2, .int x0, v4] (.int x0 :: st) μ := g_iload_n (i := 3) (by decide +kernel) rfl
theorem i94_78 : m_G 94 78 [v0, v1, v2, v3, .int x0] st μ = m_G 94 80 [v0, v1, v2, v3, .int x0] (.int x0 :: st) μ := g_iload (i := 4) (by decide +kernel) rfl
theorem i94_80 (ho : m_oc μ a0 = some 8) : m_G 94 80 L (.int x1 :: .int x0 :: .ref a0 :: [w0]) μ = b_c (m_D 72 [.ref a0, .int x0, .int x1] μ) 94 83 L [w0] := g_virt (i := 285) (n := 2) (a := a0) (c := 8) (l := [(8, 72)]) (by decide +kernel) (by decide +kernel) rfl rfl (x_call_ok (ws := [1, 1, 1]) (Nat.le_of_ble_eq_true rfl) rfl (by decide +kernel) rfl (by decide +kernel) rfl rfl) ho
theorem i94_83 : m_G 94 83 L (.int x0 :: st) μ = m_G 94 84 L (.long x0.toInt64 :: st) μ := g_i2l (by decide +kernel)
theorem i94_84 : m_G 94 84 L (.long l1 :: .long l0 :: st) μ = m_G 94 85 L (.long (l0 + l1) :: st) μ := g_ladd (by decide +kernel)
theorem i94_85 : m_G 94 85 [v0, v1, v2, v3, v4] (.long l0 :: st) μ = m_G 94 86 [v0, .long l0, m_d, v3, v4] st μ := g_lstore_n (i := 1) (by decide +kernel) ⟨Nat.le_of_ble_eq_true rfl, by decide⟩ rfl
theorem i94_86 : m_G 94 86 L st μ = m_G 94 89 L (.long (31) :: st) μ := g_ldc2_w (i := 280) (by decide +kernel) (by decide +kernel)
theorem i94_89 : m_G 94 89 [v0, .long l0, v2, v3, v4] st μ = m_G 94 90 [v0, .long l0, v2, v3, v4] (.long l0 :: st) μ := g_lload_n (i := 1) (by decide +kernel) rfl
theorem i94_90 : m_G 94 90 L (.long l1 :: .long l0 :: st) μ = m_G 94 91 L (.long (l0 * l1) :: st) μ := g_lmul (by decide +kernel)
theorem i94_91 : m_G 94 91 [.ref a0, v1, v2, v3, v4] st μ = m_G 94 92 [.ref a0, v1, v2, v3, v4] (.ref a0 :: st) μ := g_aload_n (i := 0) (by decide +kernel) rfl
theorem i94_92 : m_G 94 92 [v0, v1, v2, .int x0, v4] st μ = m_G 94 93 [v0, v1, v2, .int x0, v4] (.int x0 :: st) μ := g_iload_n (i := 3) (by decide +kernel) rfl
theorem i94_93 : m_G 94 93 [v0, v1, v2, v3, .int x0] st μ = m_G 94 95 [v0, v1, v2, v3, .int x0] (.int x0 :: st) μ := g_iload (i := 4) (by decide +kernel) rfl
theorem i94_95 (ho : m_oc μ a0 = some 8) : m_G 94 95 L (.int x1 :: .int x0 :: .ref a0 :: [w0]) μ = b_c (m_D 84 [.ref a0, .int x0, .int x1] μ) 94 98 L [w0] := g_virt (i := 288) (n := 2) (a := a0) (c := 8) (l := [(8, 84)]) (by decide +kernel) (by decide +kernel) rfl rfl (x_call_ok (ws := [1, 1, 1]) (Nat.le_of_ble_eq_true rfl) rfl (by decide +kernel) rfl (by decide +kernel) rfl rfl) ho
theorem i94_98 : m_G 94 98 L (.int x0 :: st) μ = m_G 94 99 L (.long x0.toInt64 :: st) μ := g_i2l (by decide +kernel)
theorem i94_99 : m_G 94 99 L (.long l1 :: .long l0 :: st) μ = m_G 94 100 L (.long (l0 + l1) :: st) μ := g_ladd (by decide +kernel)
theorem i94_100 : m_G 94 100 [v0, v1, v2, v3, v4] (.long l0 :: st) μ = m_G 94 101 [v0, .long l0, m_d, v3, v4] st μ := g_lstore_n (i := 1) (by decide +kernel) ⟨Nat.le_of_ble_eq_true rfl, by decide⟩ rfl
theorem i94_101 : m_G 94 101 [v0, v1, v2, v3, .int x0] st μ = m_G 94 104 [v0, v1, v2, v3, .int (x0 + 1)] st μ := g_iinc (i := 4) (n := 1) (by decide +kernel) rfl (by decide) rfl
theorem i94_104 : m_G 94 104 L st μ = m_G 94 62 L st μ := g_goto (off := -42) (by decide +kernel) (by decide)
theorem i94_107 : m_G 94 107 [v0, v1, v2, .int x0, v4] st μ = m_G 94 110 [v0, v1, v2, .int (x0 + 1), v4] st μ := g_iinc (i := 3) (n := 1) (by decide +kernel) rfl (by decide) rfl
theorem i94_110 : m_G 94 110 L st μ = m_G 94 34 L st μ := g_goto (off := -76) (by decide +kernel) (by decide)
theorem i94_113 : m_G 94 113 L st μ = m_G 94 114 L (.int 0 :: st) μ := g_iconst (n := 0) (by decide +kernel) (by decide)
theorem i94_114 : m_G 94 114 [v0, v1, v2, v3, v4] (.int x0 :: st) μ = m_G 94 115 [v0, v1, v2, .int x0, v4] st μ := g_istore_n (i := 3) (by decide +kernel) (Nat.le_of_ble_eq_true rfl) rfl
theorem i94_115 : m_G 94 115 [v0, v1, v2, .int x0, v4] st μ = m_G 94 116 [v0, v1, v2, .int x0, v4] (.int x0 :: st) μ := g_iload_n (i := 3) (by decide +kernel) rfl
theorem i94_116 : m_G 94 116 [.ref a0, v1, v2, v3, v4] st μ = m_G 94 117 [.ref a0, v1, v2, v3, v4] (.ref a0 :: st) μ := g_aload_n (i := 0) (by decide +kernel) rfl
theorem i94_117 : m_G 94 117 L (.ref a0 :: st) μ = b_v (m_gf μ a0 8 7) 94 120 L st μ := g_getf (i := 120) (by decide +kernel) (by decide +kernel)
theorem i94_120 : m_G 94 120 L (.int x1 :: .int x0 :: st) μ = if x0 < x1 then m_G 94 123 L st μ else m_G 94 180 L st μ := g_cmpge (off := 60) (by decide +kernel) (by decide)
theorem i94_123 : m_G 94 123 L st μ = m_G 94 126 L (.long (31) :: st) μ := g_ldc2_w (i := 280) (by decide +kernel) (by decide +kernel)
theorem i94_126 : m_G 94 126 [v0, .long l0, v2, v3, v4] st μ = m_G 94 127 [v0, .long l0, v2, v3, v4] (.long l0 :: st) μ := g_lload_n (i := 1) (by decide +kernel) rfl
theorem i94_127 : m_G 94 127 L (.long l1 :: .long l0 :: st) μ = m_G 94 128 L (.long (l0 * l1) :: st) μ := g_lmul (by decide +kernel)
theorem i94_128 : m_G 94 128 [.ref a0, v1, v2, v3, v4] st μ = m_G 94 129 [.ref a0, v1, v2, v3, v4] (.ref a0 :: st) μ := g_aload_n (i := 0) (by decide +kernel) rfl
theorem i94_129 : m_G 94 129 L (.ref a0 :: st) μ = b_v (m_gf μ a0 8 6) 94 132 L st μ := g_getf (i := 27) (by decide +kernel) (by decide +kernel)
theorem i94_132 : m_G 94 132 [v0, v1, v2, .int x0, v4] st μ = m_G 94 133 [v0, v1, v2, .int x0, v4] (.int x0 :: st) μ := g_iload_n (i := 3) (by decide +kernel) rfl
theorem i94_133 : m_G 94 133 L (.int x0 :: .ref a0 :: st) μ = b_r (m_gr μ a0 x0) 94 134 L st μ := g_aald (by decide +kernel)
theorem i94_134 : m_G 94 134 L (.ref a0 :: st) μ = b_v (m_gf μ a0 1 0) 94 137 L st μ := g_getf (i := 291) (by decide +kernel) (by decide +kernel)
theorem i94_137 : m_G 94 137 L (.int x0 :: st) μ = m_G 94 138 L (.long x0.toInt64 :: st) μ := g_i2l (by decide +kernel)
theorem i94_138 : m_G 94 138 L (.long l1 :: .long l0 :: st) μ = m_G 94 139 L (.long (l0 + l1) :: st) μ := g_ladd (by decide +kernel)
theorem i94_139 : m_G 94 139 [v0, v1, v2, v3, v4] (.long l0 :: st) μ = m_G 94 140 [v0, .long l0, m_d, v3, v4] st μ := g_lstore_n (i := 1) (by decide +kernel) ⟨Nat.le_of_ble_eq_true rfl, by decide⟩ rfl
theorem i94_140 : m_G 94 140 L st μ = m_G 94 143 L (.long (31) :: st) μ := g_ldc2_w (i := 280) (by decide +kernel) (by decide +kernel)
theorem i94_143 : m_G 94 143 [v0, .long l0, v2, v3, v4] st μ = m_G 94 144 [v0, .long l0, v2, v3, v4] (.long l0 :: st) μ := g_lload_n (i := 1) (by decide +kernel) rfl
theorem i94_144 : m_G 94 144 L (.long l1 :: .long l0 :: st) μ = m_G 94 145 L (.long (l0 * l1) :: st) μ := g_lmul (by decide +kernel)
theorem i94_145 : m_G 94 145 [.ref a0, v1, v2, v3, v4] st μ = m_G 94 146 [.ref a0, v1, v2, v3, v4] (.ref a0 :: st) μ := g_aload_n (i := 0) (by decide +kernel) rfl
theorem i94_146 : m_G 94 146 L (.ref a0 :: st) μ = b_v (m_gf μ a0 8 6) 94 149 L st μ := g_getf (i := 27) (by decide +kernel) (by decide +kernel)
theorem i94_149 : m_G 94 149 [v0, v1, v2, .int x0, v4] st μ = m_G 94 150 [v0, v1, v2, .int x0, v4] (.int x0 :: st) μ := g_iload_n (i := 3) (by decide +kernel) rfl
theorem i94_150 : m_G 94 150 L (.int x0 :: .ref a0 :: st) μ = b_r (m_gr μ a0 x0) 94 151 L st μ := g_aald (by decide +kernel)
theorem i94_151 : m_G 94 151 L (.ref a0 :: st) μ = b_v (m_gf μ a0 1 1) 94 154 L st μ := g_getf (i := 294) (by decide +kernel) (by decide +kernel)
theorem i94_154 : m_G 94 154 L (.int x0 :: st) μ = m_G 94 155 L (.long x0.toInt64 :: st) μ := g_i2l (by decide +kernel)
theorem i94_155 : m_G 94 155 L (.long l1 :: .long l0 :: st) μ = m_G 94 156 L (.long (l0 + l1) :: st) μ := g_ladd (by decide +kernel)
theorem i94_156 : m_G 94 156 [v0, v1, v2, v3, v4] (.long l0 :: st) μ = m_G 94 157 [v0, .long l0, m_d, v3, v4] st μ := g_lstore_n (i := 1) (by decide +kernel) ⟨Nat.le_of_ble_eq_true rfl, by decide⟩ rfl
theorem i94_157 : m_G 94 157 L st μ = m_G 94 160 L (.long (31) :: st) μ := g_ldc2_w (i := 280) (by decide +kernel) (by decide +kernel)
theorem i94_160 : m_G 94 160 [v0, .long l0, v2, v3, v4] st μ = m_G 94 161 [v0, .long l0, v2, v3, v4] (.long l0 :: st) μ := g_lload_n (i := 1) (by decide +kernel) rfl
theorem i94_161 : m_G 94 161 L (.long l1 :: .long l0 :: st) μ = m_G 94 162 L (.long (l0 * l1) :: st) μ := g_lmul (by decide +kernel)
theorem i94_162 : m_G 94 162 [.ref a0, v1, v2, v3, v4] st μ = m_G 94 163 [.ref a0, v1, v2, v3, v4] (.ref a0 :: st) μ := g_aload_n (i := 0) (by decide +kernel) rfl
theorem i94_163 : m_G 94 163 L (.ref a0 :: st) μ = b_v (m_gf μ a0 8 6) 94 166 L st μ := g_getf (i := 27) (by decide +kernel) (by decide +kernel)
theorem i94_166 : m_G 94 166 [v0, v1, v2, .int x0, v4] st μ = m_G 94 167 [v0, v1, v2, .int x0, v4] (.int x0 :: st) μ := g_iload_n (i := 3) (by decide +kernel) rfl
theorem i94_167 : m_G 94 167 L (.int x0 :: .ref a0 :: st) μ = b_r (m_gr μ a0 x0) 94 168 L st μ := g_aald (by decide +kernel)
theorem i94_168 : m_G 94 168 L (.ref a0 :: st) μ = b_v (m_gf μ a0 1 2) 94 171 L st μ := g_getf (i := 297) (by decide +kernel) (by decide +kernel)
theorem i94_171 : m_G 94 171 L (.int x0 :: st) μ = m_G 94 172 L (.long x0.toInt64 :: st) μ := g_i2l (by decide +kernel)
theorem i94_172 : m_G 94 172 L (.long l1 :: .long l0 :: st) μ = m_G 94 173 L (.long (l0 + l1) :: st) μ := g_ladd (by decide +kernel)
theorem i94_173 : m_G 94 173 [v0, v1, v2, v3, v4] (.long l0 :: st) μ = m_G 94 174 [v0, .long l0, m_d, v3, v4] st μ := g_lstore_n (i := 1) (by decide +kernel) ⟨Nat.le_of_ble_eq_true rfl, by decide⟩ rfl
theorem i94_174 : m_G 94 174 [v0, v1, v2, .int x0, v4] st μ = m_G 94 177 [v0, v1, v2, .int (x0 + 1), v4] st μ := g_iinc (i := 3) (n := 1) (by decide +kernel) rfl (by decide) rfl
theorem i94_177 : m_G 94 177 L st μ = m_G 94 115 L st μ := g_goto (off := -62) (by decide +kernel) (by decide)
theorem i94_180 : m_G 94 180 L st μ = m_G 94 181 L (.int 0 :: st) μ := g_iconst (n := 0) (by decide +kernel) (by decide)
theorem i94_181 : m_G 94 181 [v0, v1, v2, v3, v4] (.int x0 :: st) μ = m_G 94 182 [v0, v1, v2, .int x0, v4] st μ := g_istore_n (i := 3) (by decide +kernel) (Nat.le_of_ble_eq_true rfl) rfl
theorem i94_182 : m_G 94 182 [v0, v1, v2, .int x0, v4] st μ = m_G 94 183 [v0, v1, v2, .int x0, v4] (.int x0 :: st) μ := g_iload_n (i := 3) (by decide +kernel) rfl
theorem i94_183 : m_G 94 183 [.ref a0, v1, v2, v3, v4] st μ = m_G 94 184 [.ref a0, v1, v2, v3, v4] (.ref a0 :: st) μ := g_aload_n (i := 0) (by decide +kernel) rfl
theorem i94_184 : m_G 94 184 L (.ref a0 :: st) μ = b_v (m_gf μ a0 8 1) 94 187 L st μ := g_getf (i := 74) (by decide +kernel) (by decide +kernel)
theorem i94_187 : m_G 94 187 L (.int x1 :: .int x0 :: st) μ = if x0 < x1 then m_G 94 190 L st μ else m_G 94 210 L st μ := g_cmpge (off := 23) (by decide +kernel) (by decide)
theorem i94_190 : m_G 94 190 L st μ = m_G 94 193 L (.long (31) :: st) μ := g_ldc2_w (i := 280) (by decide +kernel) (by decide +kernel)
theorem i94_193 : m_G 94 193 [v0, .long l0, v2, v3, v4] st μ = m_G 94 194 [v0, .long l0, v2, v3, v4] (.long l0 :: st) μ := g_lload_n (i := 1) (by decide +kernel) rfl
theorem i94_194 : m_G 94 194 L (.long l1 :: .long l0 :: st) μ = m_G 94 195 L (.long (l0 * l1) :: st) μ := g_lmul (by decide +kernel)
theorem i94_195 : m_G 94 195 [.ref a0, v1, v2, v3, v4] st μ = m_G 94 196 [.ref a0, v1, v2, v3, v4] (.ref a0 :: st) μ := g_aload_n (i := 0) (by decide +kernel) rfl
theorem i94_196 : m_G 94 196 L (.ref a0 :: st) μ = b_v (m_gf μ a0 8 0) 94 199 L st μ := g_getf (i := 9) (by decide +kernel) (by decide +kernel)
theorem i94_199 : m_G 94 199 [v0, v1, v2, .int x0, v4] st μ = m_G 94 200 [v0, v1, v2, .int x0, v4] (.int x0 :: st) μ := g_iload_n (i := 3) (by decide +kernel) rfl
theorem i94_200 : m_G 94 200 L (.int x0 :: .ref a0 :: st) μ = b_i (m_gb μ a0 x0) 94 201 L st μ := g_bald (by decide +kernel)
theorem i94_201 : m_G 94 201 L (.int x0 :: st) μ = m_G 94 202 L (.long x0.toInt64 :: st) μ := g_i2l (by decide +kernel)
theorem i94_202 : m_G 94 202 L (.long l1 :: .long l0 :: st) μ = m_G 94 203 L (.long (l0 + l1) :: st) μ := g_ladd (by decide +kernel)
theorem i94_203 : m_G 94 203 [v0, v1, v2, v3, v4] (.long l0 :: st) μ = m_G 94 204 [v0, .long l0, m_d, v3, v4] st μ := g_lstore_n (i := 1) (by decide +kernel) ⟨Nat.le_of_ble_eq_true rfl, by decide⟩ rfl
theorem i94_204 : m_G 94 204 [v0, v1, v2, .int x0, v4] st μ = m_G 94 207 [v0, v1, v2, .int (x0 + 1), v4] st μ := g_iinc (i := 3) (n := 1) (by decide +kernel) rfl (by decide) rfl
theorem i94_207 : m_G 94 207 L st μ = m_G 94 182 L st μ := g_goto (off := -25) (by decide +kernel) (by decide)
theorem i94_210 : m_G 94 210 L st μ = m_G 94 211 L (.int 0 :: st) μ := g_iconst (n := 0) (by decide +kernel) (by decide)
theorem i94_211 : m_G 94 211 [v0, v1, v2, v3, v4] (.int x0 :: st) μ = m_G 94 212 [v0, v1, v2, .int x0, v4] st μ := g_istore_n (i := 3) (by decide +kernel) (Nat.le_of_ble_eq_true rfl) rfl
theorem i94_212 : m_G 94 212 [v0, v1, v2, .int x0, v4] st μ = m_G 94 213 [v0, v1, v2, .int x0, v4] (.int x0 :: st) μ := g_iload_n (i := 3) (by decide +kernel) rfl
theorem i94_213 : m_G 94 213 L st μ = m_G 94 215 L (.int 6 :: st) μ := g_bipush (n := 6) (by decide +kernel) (by decide)
theorem i94_215 : m_G 94 215 L (.int x1 :: .int x0 :: st) μ = if x1 < x0 then m_G 94 237 L st μ else m_G 94 218 L st μ := g_cmpgt (off := 22) (by decide +kernel) (by decide)
theorem i94_218 : m_G 94 218 L st μ = m_G 94 221 L (.long (31) :: st) μ := g_ldc2_w (i := 280) (by decide +kernel) (by decide +kernel)
theorem i94_221 : m_G 94 221 [v0, .long l0, v2, v3, v4] st μ = m_G 94 222 [v0, .long l0, v2, v3, v4] (.long l0 :: st) μ := g_lload_n (i := 1) (by decide +kernel) rfl
theorem i94_222 : m_G 94 222 L (.long l1 :: .long l0 :: st) μ = m_G 94 223 L (.long (l0 * l1) :: st) μ := g_lmul (by decide +kernel)
theorem i94_223 : m_G 94 223 [.ref a0, v1, v2, v3, v4] st μ = m_G 94 224 [.ref a0, v1, v2, v3, v4] (.ref a0 :: st) μ := g_aload_n (i := 0) (by decide +kernel) rfl
theorem i94_224 : m_G 94 224 [v0, v1, v2, .int x0, v4] st μ = m_G 94 225 [v0, v1, v2, .int x0, v4] (.int x0 :: st) μ := g_iload_n (i := 3) (by decide +kernel) rfl
theorem i94_225 (ho : m_oc μ a0 = some 8) : m_G 94 225 L (.int x0 :: .ref a0 :: [w0]) μ = b_c (m_D 92 [.ref a0, .int x0] μ) 94 228 L [w0] := g_virt (i := 300) (n := 1) (a := a0) (c := 8) (l := [(8, 92)]) (by decide +kernel) (by decide +kernel) rfl rfl (x_call_ok (ws := [1, 1]) (Nat.le_of_ble_eq_true rfl) rfl (by decide +kernel) rfl (by decide +kernel) rfl rfl) ho
theorem i94_228 : m_G 94 228 L (.int x0 :: st) μ = m_G 94 229 L (.long x0.toInt64 :: st) μ := g_i2l (by decide +kernel)
theorem i94_229 : m_G 94 229 L (.long l1 :: .long l0 :: st) μ = m_G 94 230 L (.long (l0 + l1) :: st) μ := g_ladd (by decide +kernel)
theorem i94_230 : m_G 94 230 [v0, v1, v2, v3, v4] (.long l0 :: st) μ = m_G 94 231 [v0, .long l0, m_d, v3, v4] st μ := g_lstore_n (i := 1) (by decide +kernel) ⟨Nat.le_of_ble_eq_true rfl, by decide⟩ rfl
theorem i94_231 : m_G 94 231 [v0, v1, v2, .int x0, v4] st μ = m_G 94 234 [v0, v1, v2, .int (x0 + 1), v4] st μ := g_iinc (i := 3) (n := 1) (by decide +kernel) rfl (by decide) rfl
theorem i94_234 : m_G 94 234 L st μ = m_G 94 212 L st μ := g_goto (off := -22) (by decide +kernel) (by decide)
theorem i94_237 : m_G 94 237 [v0, .long l0, v2, v3, v4] st μ = m_G 94 238 [v0, .long l0, v2, v3, v4] (.long l0 :: st) μ := g_lload_n (i := 1) (by decide +kernel) rfl
theorem i94_238 : m_G 94 238 L [.long l0] μ = some (some (.long l0), μ) := g_lret (by decide +kernel) (by decide)
theorem D94 : m_D 94 [.ref a0] μ = m_G 94 0 [.ref a0, m_d, m_d, m_d, m_d] [] μ := d_def (by decide) rfl
theorem i95_0 : m_G 95 0 [v0, .long l0, v2, v3, v4, v5, v6] st μ = m_G 95 1 [v0, .long l0, v2, v3, v4, v5, v6] (.long l0 :: st) μ := g_lload_n (i := 1) (by decide +kernel) rfl
theorem i95_1 : m_G 95 1 [v0, v1, v2, v3, v4, v5, v6] (.long l0 :: st) μ = m_G 95 3 [v0, v1, v2, v3, .long l0, m_d, v6] st μ := g_lstore (i := 4) (by decide +kernel) ⟨Nat.le_of_ble_eq_true rfl, by decide⟩ rfl
theorem i95_3 : m_G 95 3 L st μ = m_G 95 4 L (.int 0 :: st) μ := g_iconst (n := 0) (by decide +kernel) (by decide)
theorem i95_4 : m_G 95 4 [v0, v1, v2, v3, v4, v5, v6] (.int x0 :: st) μ = m_G 95 6 [v0, v1, v2, v3, v4, v5, .int x0] st μ := g_istore (i := 6) (by decide +kernel) (Nat.le_of_ble_eq_true rfl) rfl
theorem i95_6 : m_G 95 6 [v0, v1, v2, v3, v4, v5, .int x0] st μ = m_G 95 8 [v0, v1, v2, v3, v4, v5, .int x0] (.int x0 :: st) μ := g_iload (i := 6) (by decide +kernel) rfl
theorem i95_8 : m_G 95 8 [v0, v1, v2, .ref a0, v4, v5, v6] st μ = m_G 95 9 [v0, v1, v2, .ref a0, v4, v5, v6] (.ref a0 :: st) μ := g_aload_n (i := 3) (by decide +kernel) rfl
theorem i95_9 : m_G 95 9 L (.ref a0 :: st) μ = b_v (m_gf μ a0 3 0) 95 12 L st μ := g_getf (i := 262) (by decide +kernel) (by decide +kernel)
theorem i95_12 : m_G 95 12 L (.int x1 :: .int x0 :: st) μ = if x0 < x1 then m_G 95 15 L st μ else m_G 95 88 L st μ := g_cmpge (off := 76) (by decide +kernel) (by decide)
theorem i95_15 : m_G 95 15 L st μ = m_G 95 18 L (.long (31) :: st) μ := g_ldc2_w (i := 280) (by decide +kernel) (by decide +kernel)
theorem i95_18 : m_G 95 18 [v0, v1, v2, v3, .long l0, v5, v6] st μ = m_G 95 20 [v0, v1, v2, v3, .long l0, v5, v6] (.long l0 :: st) μ := g_lload (i := 4) (by decide +kernel) rfl
theorem i95_20 : m_G 95 20 L (.long l1 :: .long l0 :: st) μ = m_G 95 21 L (.long (l0 * l1) :: st) μ := g_lmul (by decide +kernel)
theorem i95_21 : m_G 95 21 [v0, v1, v2, .ref a0, v4, v5, v6] st μ = m_G 95 22 [v0, v1, v2, .ref a0, v4, v5, v6] (.ref a0 :: st) μ := g_aload_n (i := 3) (by decide +kernel) rfl
theorem i95_22 : m_G 95 22 L (.ref a0 :: st) μ = b_v (m_gf μ a0 3 1) 95 25 L st μ := g_getf (i := 137) (by decide +kernel) (by decide +kernel)
theorem i95_25 : m_G 95 25 [v0, v1, v2, v3, v4, v5, .int x0] st μ = m_G 95 27 [v0, v1, v2, v3, v4, v5, .int x0] (.int x0 :: st) μ := g_iload (i := 6) (by decide +kernel) rfl
theorem i95_27 : m_G 95 27 L (.int x0 :: .ref a0 :: st) μ = b_i (m_ga μ a0 x0) 95 28 L st μ := g_iald (by decide +kernel)
theorem i95_28 : m_G 95 28 L (.int x0 :: st) μ = m_G 95 29 L (.long x0.toInt64 :: st) μ := g_i2l (by decide +kernel)
theorem i95_29 : m_G 95 29 L (.long l1 :: .long l0 :: st) μ = m_G 95 30 L (.long (l0 + l1) :: st) μ := g_ladd (by decide +kernel)
theorem i95_30 : m_G 95 30 [v0, v1, v2, v3, v4, v5, v6] (.long l0 :: st) μ = m_G 95 32 [v0, v1, v2, v3, .long l0, m_d, v6] st μ := g_lstore (i := 4) (by decide +kernel) ⟨Nat.le_of_ble_eq_true rfl, by decide⟩ rfl
theorem i95_32 : m_G 95 32 L st μ = m_G 95 35 L (.long (31) :: st) μ := g_ldc2_w (i := 280) (by decide +kernel) (by decide +kernel)
theorem i95_35 : m_G 95 35 [v0, v1, v2, v3, .long l0, v5, v6] st μ = m_G 95 37 [v0, v1, v2, v3, .long l0, v5, v6] (.long l0 :: st) μ := g_lload (i := 4) (by decide +kernel) rfl
theorem i95_37 : m_G 95 37 L (.long l1 :: .long l0 :: st) μ = m_G 95 38 L (.long (l0 * l1) :: st) μ := g_lmul (by decide +kernel)
theorem i95_38 : m_G 95 38 [v0, v1, v2, .ref a0, v4, v5, v6] st μ = m_G 95 39 [v0, v1, v2, .ref a0, v4, v5, v6] (.ref a0 :: st) μ := g_aload_n (i := 3) (by decide +kernel) rfl
theorem i95_39 : m_G 95 39 L (.ref a0 :: st) μ = b_v (m_gf μ a0 3 2) 95 42 L st μ := g_getf (i := 140) (by decide +kernel) (by decide +kernel)
theorem i95_42 : m_G 95 42 [v0, v1, v2, v3, v4, v5, .int x0] st μ = m_G 95 44 [v0, v1, v2, v3, v4, v5, .int x0] (.int x0 :: st) μ := g_iload (i := 6) (by decide +kernel) rfl
theorem i95_44 : m_G 95 44 L (.int x0 :: .ref a0 :: st) μ = b_i (m_ga μ a0 x0) 95 45 L st μ := g_iald (by decide +kernel)
theorem i95_45 : m_G 95 45 L (.int x0 :: st) μ = m_G 95 46 L (.long x0.toInt64 :: st) μ := g_i2l (by decide +kernel)
theorem i95_46 : m_G 95 46 L (.long l1 :: .long l0 :: st) μ = m_G 95 47 L (.long (l0 + l1) :: st) μ := g_ladd (by decide +kernel)
theorem i95_47 : m_G 95 47 [v0, v1, v2, v3, v4, v5, v6] (.long l0 :: st) μ = m_G 95 49 [v0, v1, v2, v3, .long l0, m_d, v6] st μ := g_lstore (i := 4) (by decide +kernel) ⟨Nat.le_of_ble_eq_true rfl, by decide⟩ rfl
theorem i95_49 : m_G 95 49 L st μ = m_G 95 52 L (.long (31) :: st) μ := g_ldc2_w (i := 280) (by decide +kernel) (by decide +kernel)
theorem i95_52 : m_G 95 52 [v0, v1, v2, v3, .long l0, v5, v6] st μ = m_G 95 54 [v0, v1, v2, v3, .long l0, v5, v6] (.long l0 :: st) μ := g_lload (i := 4) (by decide +kernel) rfl
theorem i95_54 : m_G 95 54 L (.long l1 :: .long l0 :: st) μ = m_G 95 55 L (.long (l0 * l1) :: st) μ := g_lmul (by decide +kernel)
theorem i95_55 : m_G 95 55 [v0, v1, v2, .ref a0, v4, v5, v6] st μ = m_G 95 56 [v0, v1, v2, .ref a0, v4, v5, v6] (.ref a0 :: st) μ := g_aload_n (i := 3) (by decide +kernel) rfl
theorem i95_56 : m_G 95 56 L (.ref a0 :: st) μ = b_v (m_gf μ a0 3 3) 95 59 L st μ := g_getf (i := 143) (by decide +kernel) (by decide +kernel)
theorem i95_59 : m_G 95 59 [v0, v1, v2, v3, v4, v5, .int x0] st μ = m_G 95 61 [v0, v1, v2, v3, v4, v5, .int x0] (.int x0 :: st) μ := g_iload (i := 6) (by decide +kernel) rfl
theorem i95_61 : m_G 95 61 L (.int x0 :: .ref a0 :: st) μ = b_i (m_ga μ a0 x0) 95 62 L st μ := g_iald (by decide +kernel)
theorem i95_62 : m_G 95 62 L (.int x0 :: st) μ = m_G 95 63 L (.long x0.toInt64 :: st) μ := g_i2l (by decide +kernel)
theorem i95_63 : m_G 95 63 L (.long l1 :: .long l0 :: st) μ = m_G 95 64 L (.long (l0 + l1) :: st) μ := g_ladd (by decide +kernel)
theorem i95_64 : m_G 95 64 [v0, v1, v2, v3, v4, v5, v6] (.long l0 :: st) μ = m_G 95 66 [v0, v1, v2, v3, .long l0, m_d, v6] st μ := g_lstore (i := 4) (by decide +kernel) ⟨Nat.le_of_ble_eq_true rfl, by decide⟩ rfl
theorem i95_66 : m_G 95 66 L st μ = m_G 95 69 L (.long (31) :: st) μ := g_ldc2_w (i := 280) (by decide +kernel) (by decide +kernel)
theorem i95_69 : m_G 95 69 [v0, v1, v2, v3, .long l0, v5, v6] st μ = m_G 95 71 [v0, v1, v2, v3, .long l0, v5, v6] (.long l0 :: st) μ := g_lload (i := 4) (by decide +kernel) rfl
theorem i95_71 : m_G 95 71 L (.long l1 :: .long l0 :: st) μ = m_G 95 72 L (.long (l0 * l1) :: st) μ := g_lmul (by decide +kernel)
theorem i95_72 : m_G 95 72 [v0, v1, v2, .ref a0, v4, v5, v6] st μ = m_G 95 73 [v0, v1, v2, .ref a0, v4, v5, v6] (.ref a0 :: st) μ := g_aload_n (i := 3) (by decide +kernel) rfl
theorem i95_73 : m_G 95 73 [v0, v1, v2, v3, v4, v5, .int x0] st μ = m_G 95 75 [v0, v1, v2, v3, v4, v5, .int x0] (.int x0 :: st) μ := g_iload (i := 6) (by decide +kernel) rfl
theorem i95_75 (ho : m_oc μ a0 = some 3) : m_G 95 75 L (.int x0 :: .ref a0 :: [w0]) μ = b_c (m_D 18 [.ref a0, .int x0] μ) 95 78 L [w0] := g_virt (i := 166) (n := 1) (a := a0) (c := 3) (l := [(3, 18)]) (by decide +kernel) (by decide +kernel) rfl rfl (x_call_ok (ws := [1, 1]) (Nat.le_of_ble_eq_true rfl) rfl (by decide +kernel) rfl (by decide +kernel) rfl rfl) ho
theorem i95_78 : m_G 95 78 L (.int x0 :: st) μ = m_G 95 79 L (.long x0.toInt64 :: st) μ := g_i2l (by decide +kernel)
theorem i95_79 : m_G 95 79 L (.long l1 :: .long l0 :: st) μ = m_G 95 80 L (.long (l0 + l1) :: st) μ := g_ladd (by decide +kernel)
theorem i95_80 : m_G 95 80 [v0, v1, v2, v3, v4, v5, v6] (.long l0 :: st) μ = m_G 95 82 [v0, v1, v2, v3, .long l0, m_d, v6] st μ := g_lstore (i := 4) (by decide +kernel) ⟨Nat.le_of_ble_eq_true rfl, by decide⟩ rfl
theorem i95_82 : m_G 95 82 [v0, v1, v2, v3, v4, v5, .int x0] st μ = m_G 95 85 [v0, v1, v2, v3, v4, v5, .int (x0 + 1)] st μ := g_iinc (i := 6) (n := 1) (by decide +kernel) rfl (by decide) rfl
theorem i95_85 : m_G 95 85 L st μ = m_G 95 6 L st μ := g_goto (off := -79) (by decide +kernel) (by decide)
theorem i95_88 : m_G 95 88 L st μ = m_G 95 91 L (.long (31) :: st) μ := g_ldc2_w (i := 280) (by decide +kernel) (by decide +kernel)
theorem i95_91 : m_G 95 91 [v0, v1, v2, v3, .long l0, v5, v6] st μ = m_G 95 93 [v0, v1, v2, v3, .long l0, v5, v6] (.long l0 :: st) μ := g_lload (i := 4) (by decide +kernel) rfl
theorem i95_93 : m_G 95 93 L (.long l1 :: .long l0 :: st) μ = m_G 95 94 L (.long (l0 * l1) :: st) μ := g_lmul (by decide +kernel)
theorem i95_94 : m_G 95 94 [v0, v1, v2, .ref a0, v4, v5, v6] st μ = m_G 95 95 [v0, v1, v2, .ref a0, v4, v5, v6] (.ref a0 :: st) μ := g_aload_n (i := 3) (by decide +kernel) rfl
theorem i95_95 : m_G 95 95 L (.ref a0 :: st) μ = b_v (m_gf μ a0 3 13) 95 98 L st μ := g_getf (i := 173) (by decide +kernel) (by decide +kernel)
theorem i95_98 : m_G 95 98 L (.int x0 :: st) μ = if x0 = 0 then m_G 95 105 L st μ else m_G 95 101 L st μ := g_ifeq (off := 7) (by decide +kernel) (by decide)
theorem i95_101 : m_G 95 101 L st μ = m_G 95 102 L (.int 1 :: st) μ := g_iconst (n := 1) (by decide +kernel) (by decide)
theorem i95_102 : m_G 95 102 L st μ = m_G 95 106 L st μ := g_goto (off := 4) (by decide +kernel) (by decide)
theorem i95_105 : m_G 95 105 L st μ = m_G 95 106 L (.int 0 :: st) μ := g_iconst (n := 0) (by decide +kernel) (by decide)
theorem i95_106 : m_G 95 106 L (.int x0 :: st) μ = m_G 95 107 L (.long x0.toInt64 :: st) μ := g_i2l (by decide +kernel)
theorem i95_107 : m_G 95 107 L (.long l1 :: .long l0 :: st) μ = m_G 95 108 L (.long (l0 + l1) :: st) μ := g_ladd (by decide +kernel)
theorem i95_108 : m_G 95 108 [v0, v1, v2, v3, v4, v5, v6] (.long l0 :: st) μ = m_G 95 110 [v0, v1, v2, v3, .long l0, m_d, v6] st μ := g_lstore (i := 4) (by decide +kernel) ⟨Nat.le_of_ble_eq_true rfl, by decide⟩ rfl
theorem i95_110 : m_G 95 110 L st μ = m_G 95 113 L (.long (31) :: st) μ := g_ldc2_w (i := 280) (by decide +kernel) (by decide +kernel)
theorem i95_113 : m_G 95 113 [v0, v1, v2, v3, .long l0, v5, v6] st μ = m_G 95 115 [v0, v1, v2, v3, .long l0, v5, v6] (.long l0 :: st) μ := g_lload (i := 4) (by decide +kernel) rfl
theorem i95_115 : m_G 95 115 L (.long l1 :: .long l0 :: st) μ = m_G 95 116 L (.long (l0 * l1) :: st) μ := g_lmul (by decide +kernel)
theorem i95_116 : m_G 95 116 [.ref a0, v1, v2, v3, v4, v5, v6] st μ = m_G 95 117 [.ref a0, v1, v2, v3, v4, v5, v6] (.ref a0 :: st) μ := g_aload_n (i := 0) (by decide +kernel) rfl
theorem i95_117 : m_G 95 117 L (.ref a0 :: st) μ = b_v (m_gf μ a0 8 13) 95 120 L st μ := g_getf (i := 62) (by decide +kernel) (by decide +kernel)
theorem i95_120 : m_G 95 120 [v0, v1, v2, .ref a0, v4, v5, v6] st μ = m_G 95 121 [v0, v1, v2, .ref a0, v4, v5, v6] (.ref a0 :: st) μ := g_aload_n (i := 3) (by decide +kernel) rfl
theorem i95_121 : m_G 95 121 [.ref a0, v1, v2, v3, v4, v5, v6] st μ = m_G 95 122 [.ref a0, v1, v2, v3, v4, v5, v6] (.ref a0 :: st) μ := g_aload_n (i := 0) (by decide +kernel) rfl
theorem i95_122 : m_G 95 122 L (.ref a0 :: st) μ = b_v (m_gf μ a0 8 2) 95 125 L st μ := g_getf (i := 15) (by decide +kernel) (by decide +kernel)
theorem i95_125 : m_G 95 125 L st μ = m_G 95 126 L (.int 0 :: st) μ := g_iconst (n := 0) (by decide +kernel) (by decide)
theorem i95_126 : m_G 95 126 L (.int x0 :: .ref a0 :: st) μ = b_r (m_gr μ a0 x0) 95 127 L st μ := g_aald (by decide +kernel)
theorem i95_127 (ho : m_oc μ a0 = some 5) : m_G 95 127 L (.ref a2 :: .ref a1 :: .ref a0 :: [w0]) μ = b_c (m_D 40 [.ref a0, .ref a1, .ref a2] μ) 95 130 L [w0] := g_virt (i := 243) (n := 2) (a := a0) (c := 5) (l := [(5, 40)]) (by decide +kernel) (by decide +kernel) rfl rfl (x_call_ok (ws := [1, 1, 1]) (Nat.le_of_ble_eq_true rfl) rfl (by decide +kernel) rfl (by decide +kernel) rfl rfl) ho
theorem i95_130 : m_G 95 130 L (.int x0 :: st) μ = m_G 95 131 L (.long x0.toInt64 :: st) μ := g_i2l (by decide +kernel)
theorem i95_131 : m_G 95 131 L (.long l1 :: .long l0 :: st) μ = m_G 95 132 L (.long (l0 + l1) :: st) μ := g_ladd (by decide +kernel)
theorem i95_132 : m_G 95 132 L [.long l0] μ = some (some (.long l0), μ) := g_lret (by decide +kernel) (by decide)
theorem D95 : m_D 95 [.ref a0, .long l0, .ref a2] μ = m_G 95 0 [.ref a0, .long l0, m_d, .ref a2, m_d, m_d, m_d] [] μ := d_def (by decide) rfl
theorem i96_0 : m_G 96 0 [.int x0, v1] st μ = m_G 96 1 [.int x0, v1] (.int x0 :: st) μ := g_iload_n (i := 0) (by decide +kernel) rfl
theorem i96_1 : m_G 96 1 [v0, .int x0] st μ = m_G 96 2 [v0, .int x0] (.int x0 :: st) μ := g_iload_n (i := 1) (by decide +kernel) rfl
theorem i96_2 : m_G 96 2 L (.int x1 :: .int x0 :: st) μ = m_G 96 3 L (.int (x0 >>> (x1 &&& 31)) :: st) μ := g_ishr (by decide +kernel)
theorem i96_3 : m_G 96 3 L st μ = m_G 96 4 L (.int 1 :: st) μ := g_iconst (n := 1) (by decide +kernel) (by decide)
theorem i96_4 : m_G 96 4 L (.int x1 :: .int x0 :: st) μ = m_G 96 5 L (.int (x0 &&& x1) :: st) μ := g_iand (by decide +kernel)
theorem i96_5 : m_G 96 5 L (.int x0 :: st) μ = if x0 = 0 then m_G 96 12 L st μ else m_G 96 8 L st μ := g_ifeq (off := 7) (by decide +kernel) (by decide)
theorem i96_8 : m_G 96 8 L st μ = m_G 96 9 L (.int 1 :: st) μ := g_iconst (n := 1) (by decide +kernel) (by decide)
theorem i96_9 : m_G 96 9 L st μ = m_G 96 13 L st μ := g_goto (off := 4) (by decide +kernel) (by decide)
theorem i96_12 : m_G 96 12 L st μ = m_G 96 13 L (.int 0 :: st) μ := g_iconst (n := 0) (by decide +kernel) (by decide)
theorem i96_13 (h : x0 &&& 1 = x0) : m_G 96 13 L [.int x0] μ = some (some (.int x0), μ) := g_iretz (by decide +kernel) (by decide) h
theorem D96 : m_D 96 [.int x0, .int x1] μ = m_G 96 0 [.int x0, .int x1] [] μ := d_def (by decide) rfl
theorem i97_0 : m_G 97 0 [.int x0] st μ = m_G 97 1 [.int x0] (.int x0 :: st) μ := g_iload_n (i := 0) (by decide +kernel) rfl
theorem i97_1 : m_G 97 1 [.int x0] st μ = m_G 97 2 [.int x0] (.int x0 :: st) μ := g_iload_n (i := 0) (by decide +kernel) rfl
theorem i97_2 : m_G 97 2 L (.int x0 :: st) μ = m_G 97 3 L (.int (-x0) :: st) μ := g_ineg (by decide +kernel)
theorem i97_3 : m_G 97 3 L (.int x1 :: .int x0 :: st) μ = m_G 97 4 L (.int (x0 &&& x1) :: st) μ := g_iand (by decide +kernel)
theorem i97_4 : m_G 97 4 L [.int x0] μ = some (some (.int x0), μ) := g_ireti (by decide +kernel) (by decide)
theorem D97 : m_D 97 [.int x0] μ = m_G 97 0 [.int x0] [] μ := d_def (by decide) rfl
theorem i98_0 : m_G 98 0 L st μ = m_G 98 1 L (.int 0 :: st) μ := g_iconst (n := 0) (by decide +kernel) (by decide)
theorem i98_1 : m_G 98 1 [v0, v1, v2, v3] (.int x0 :: st) μ = m_G 98 2 [v0, v1, .int x0, v3] st μ := g_istore_n (i := 2) (by decide +kernel) (Nat.le_of_ble_eq_true rfl) rfl
theorem i98_2 : m_G 98 2 L st μ = m_G 98 3 L (.int 0 :: st) μ := g_iconst (n := 0) (by decide +kernel) (by decide)
theorem i98_3 : m_G 98 3 [v0, v1, v2, v3] (.int x0 :: st) μ = m_G 98 4 [v0, v1, v2, .int x0] st μ := g_istore_n (i := 3) (by decide +kernel) (Nat.le_of_ble_eq_true rfl) rfl
theorem i98_4 : m_G 98 4 [v0, v1, v2, .int x0] st μ = m_G 98 5 [v0, v1, v2, .int x0] (.int x0 :: st) μ := g_iload_n (i := 3) (by decide +kernel) rfl
theorem i98_5 : m_G 98 5 L st μ = m_G 98 7 L (.int 24 :: st) μ := g_bipush (n := 24) (by decide +kernel) (by decide)
theorem i98_7 : m_G 98 7 L (.int x1 :: .int x0 :: st) μ = if x0 < x1 then m_G 98 10 L st μ else m_G 98 34 L st μ := g_cmpge (off := 27) (by decide +kernel) (by decide)
theorem i98_10 : m_G 98 10 [.int x0, v1, v2, v3] st μ = m_G 98 11 [.int x0, v1, v2, v3] (.int x0 :: st) μ := g_iload_n (i := 0) (by decide +kernel) rfl
theorem i98_11 : m_G 98 11 [v0, v1, v2, .int x0] st μ = m_G 98 12 [v0, v1, v2, .int x0] (.int x0 :: st) μ := g_iload_n (i := 3) (by decide +kernel) rfl
theorem i98_12 : m_G 98 12 L (.int x1 :: .int x0 :: []) μ = b_c (m_D 96 [.int x0, .int x1] μ) 98 15 L [] := g_stat (i := 258) (n := 2) (by decide +kernel) (by decide +kernel) (by decide) (x_call_ok (ws := [1, 1]) (Nat.le_of_ble_eq_true rfl) rfl (by decide +kernel) rfl (by decide +kernel) rfl rfl)
theorem i98_15 : m_G 98 15 L (.int x0 :: st) μ = if x0 = 0 then m_G 98 28 L st μ else m_G 98 18 L st μ := g_ifeq (off := 13) (by decide +kernel) (by decide)
theorem i98_18 : m_G 98 18 [v0, v1, .int x0, v3] st μ = m_G 98 19 [v0, v1, .int x0, v3] (.int x0 :: st) μ := g_iload_n (i := 2) (by decide +kernel) rfl
theorem i98_19 : m_G 98 19 [v0, .int x0, v2, v3] st μ = m_G 98 20 [v0, .int x0, v2, v3] (.int x0 :: st) μ := g_iload_n (i := 1) (by decide +kernel) rfl
theorem i98_20 : m_G 98 20 L (.int x1 :: .int x0 :: st) μ = if x0 = x1 then m_G 98 23 L st μ else m_G 98 25 L st μ := g_cmpne (off := 5) (by decide +kernel) (by decide)
theorem i98_23 : m_G 98 23 [v0, v1, v2, .int x0] st μ = m_G 98 24 [v0, v1, v2, .int x0] (.int x0 :: st) μ := g_iload_n (i := 3) (by decide +kernel) rfl
theorem i98_24 : m_G 98 24 L [.int x0] μ = some (some (.int x0), μ) := g_ireti (by decide +kernel) (by decide)
theorem i98_25 : m_G 98 25 [v0, v1, .int x0, v3] st μ = m_G 98 28 [v0, v1, .int (x0 + 1), v3] st μ := g_iinc (i := 2) (n := 1) (by decide +kernel) rfl (by decide) rfl
theorem i98_28 : m_G 98 28 [v0, v1, v2, .int x0] st μ = m_G 98 31 [v0, v1, v2, .int (x0 + 1)] st μ := g_iinc (i := 3) (n := 1) (by decide +kernel) rfl (by decide) rfl
theorem i98_31 : m_G 98 31 L st μ = m_G 98 4 L st μ := g_goto (off := -27) (by decide +kernel) (by decide)
theorem i98_34 : m_G 98 34 L st μ = m_G 98 35 L (.int (-1) :: st) μ := g_iconst (n := -1) (by decide +kernel) (by decide)
theorem i98_35 : m_G 98 35 L [.int x0] μ = some (some (.int x0), μ) := g_ireti (by decide +kernel) (by decide)
theorem D98 : m_D 98 [.int x0, .int x1] μ = m_G 98 0 [.int x0, .int x1, m_d, m_d] [] μ := d_def (by decide) rfl
theorem i99_0 : m_G 99 0 [.int x0] st μ = m_G 99 1 [.int x0] (.int x0 :: st) μ := g_iload_n (i := 0) (by decide +kernel) rfl
theorem i99_1 : m_G 99 1 L st μ = m_G 99 3 L (.int 15 :: st) μ := g_bipush (n := 15) (by decide +kernel) (by decide)
theorem i99_3 : m_G 99 3 L (.int x1 :: .int x0 :: st) μ = if x0 < x1 then m_G 99 6 L st μ else m_G 99 10 L st μ := g_cmpge (off := 7) (by decide +kernel) (by decide)
theorem i99_6 : m_G 99 6 L st μ = m_G 99 7 L (.int 1 :: st) μ := g_iconst (n := 1) (by decide +kernel) (by decide)
theorem i99_7 : m_G 99 7 L st μ = m_G 99 22 L st μ := g_goto (off := 15) (by decide +kernel) (by decide)
theorem i99_10 : m_G 99 10 [.int x0] st μ = m_G 99 11 [.int x0] (.int x0 :: st) μ := g_iload_n (i := 0) (by decide +kernel) rfl
theorem i99_11 : m_G 99 11 L st μ = m_G 99 14 L (.int 240 :: st) μ := g_sipush (n := 240) (by decide +kernel) (by decide)
theorem i99_14 : m_G 99 14 L (.int x1 :: .int x0 :: st) μ = if x0 < x1 then m_G 99 17 L st μ else m_G 99 21 L st μ := g_cmpge (off := 7) (by decide +kernel) (by decide)
theorem i99_17 : m_G 99 17 L st μ = m_G 99 18 L (.int 2 :: st) μ := g_iconst (n := 2) (by decide +kernel) (by decide)
theorem i99_18 : m_G 99 18 L st μ = m_G 99 22 L st μ := g_goto (off := 4) (by decide +kernel) (by decide)
theorem i99_21 : m_G 99 21 L st μ = m_G 99 22 L (.int 3 :: st) μ := g_iconst (n := 3) (by decide +kernel) (by decide)
theorem i99_22 : m_G 99 22 L [.int x0] μ = some (some (.int x0), μ) := g_ireti (by decide +kernel) (by decide)
theorem D99 : m_D 99 [.int x0] μ = m_G 99 0 [.int x0] [] μ := d_def (by decide) rfl
theorem i100_0 : m_G 100 0 [.int x0, v1, v2, v3, v4] st μ = m_G 100 1 [.int x0, v1, v2, v3, v4] (.int x0 :: st) μ := g_iload_n (i := 0) (by decide +kernel) rfl
theorem i100_1 : m_G 100 1 L (.int x0 :: st) μ = if 0 ≤ x0 then m_G 100 6 L st μ else m_G 100 4 L st μ := g_ifge (off := 5) (by decide +kernel) (by decide)
theorem i100_4 : m_G 100 4 L st μ = m_G 100 5 L (.int (-1) :: st) μ := g_iconst (n := -1) (by decide +kernel) (by decide)
theorem i100_5 : m_G 100 5 L [.int x0] μ = some (some (.int x0), μ) := g_ireti (by decide +kernel) (by decide)
theorem i100_6 : m_G 100 6 [.int x0, v1, v2, v3, v4] st μ = m_G 100 7 [.int x0, v1, v2, v3, v4] (.int x0 :: st) μ := g_iload_n (i := 0) (by decide +kernel) rfl
theorem i100_7 : m_G 100 7 L (.int x0 :: []) μ = b_c (m_D 99 [.int x0] μ) 100 10 L [] := g_stat (i := 185) (n := 1) (by decide +kernel) (by decide +kernel) (by decide) (x_call_ok (ws := [1]) (Nat.le_of_ble_eq_true rfl) rfl (by decide +kernel) rfl (by decide +kernel) rfl rfl)
theorem i100_10 : m_G 100 10 [v0, v1, v2, v3, v4] (.int x0 :: st) μ = m_G 100 11 [v0, v1, .int x0, v3, v4] st μ := g_istore_n (i := 2) (by decide +kernel) (Nat.le_of_ble_eq_true rfl) rfl
theorem i100_11 : m_G 100 11 [v0, .int x0, v2, v3, v4] st μ = m_G 100 12 [v0, .int x0, v2, v3, v4] (.int x0 :: st) μ := g_iload_n (i := 1) (by decide +kernel) rfl
theorem i100_12 : m_G 100 12 L (.int x0 :: st) μ = if x0 < 0 then m_G 100 20 L st μ else m_G 100 15 L st μ := g_iflt (off := 8) (by decide +kernel) (by decide)
theorem i100_15 : m_G 100 15 [v0, .int x0, v2, v3, v4] st μ = m_G 100 16 [v0, .int x0, v2, v3, v4] (.int x0 :: st) μ := g_iload_n (i := 1) (by decide +kernel) rfl
theorem i100_16 : m_G 100 16 [v0, v1, .int x0, v3, v4] st μ = m_G 100 17 [v0, v1, .int x0, v3, v4] (.int x0 :: st) μ := g_iload_n (i := 2) (by decide +kernel) rfl
theorem i100_17 : m_G 100 17 L (.int x1 :: .int x0 :: st) μ = if x0 < x1 then m_G 100 22 L st μ else m_G 100 20 L st μ := g_cmplt (off := 5) (by decide +kernel) (by decide)
theorem i100_20 : m_G 100 20 L st μ = m_G 100 21 L (.int (-1) :: st) μ := g_iconst (n := -1) (by decide +kernel) (by decide)
theorem i100_21 : m_G 100 21 L [.int x0] μ = some (some (.int x0), μ) := g_ireti (by decide +kernel) (by decide)
theorem i100_22 : m_G 100 22 [.int x0, v1, v2, v3, v4] st μ = m_G 100 23 [.int x0, v1, v2, v3, v4] (.int x0 :: st) μ := g_iload_n (i := 0) (by decide +kernel) rfl
theorem i100_23 : m_G 100 23 [v0, v1, v2, v3, v4] (.int x0 :: st) μ = m_G 100 24 [v0, v1, v2, .int x0, v4] st μ := g_istore_n (i := 3) (by decide +kernel) (Nat.le_of_ble_eq_true rfl) rfl
theorem i100_24 : m_G 100 24 [v0, v1, .int x0, v3, v4] st μ = m_G 100 25 [v0, v1, .int x0, v3, v4] (.int x0 :: st) μ := g_iload_n (i := 2) (by decide +kernel) rfl
theorem i100_25 : m_G 100 25 L st μ = m_G 100 26 L (.int 1 :: st) μ := g_iconst (n := 1) (by decide +kernel) (by decide)
theorem i100_26 : m_G 100 26 L (.int x1 :: .int x0 :: st) μ = m_G 100 27 L (.int (x0 - x1) :: st) μ := g_isub (by decide +kernel)
theorem i100_27 : m_G 100 27 [v0, v1, v2, v3, v4] (.int x0 :: st) μ = m_G 100 29 [v0, v1, v2, v3, .int x0] st μ := g_istore (i := 4) (by decide +kernel) (Nat.le_of_ble_eq_true rfl) rfl
theorem i100_29 : m_G 100 29 [v0, v1, v2, v3, .int x0] st μ = m_G 100 31 [v0, v1, v2, v3, .int x0] (.int x0 :: st) μ := g_iload (i := 4) (by decide +kernel) rfl
theorem i100_31 : m_G 100 31 [v0, .int x0, v2, v3, v4] st μ = m_G 100 32 [v0, .int x0, v2, v3, v4] (.int x0 :: st) μ := g_iload_n (i := 1) (by decide +kernel) rfl
theorem i100_32 : m_G 100 32 L (.int x1 :: .int x0 :: st) μ = if x1 < x0 then m_G 100 35 L st μ else m_G 100 48 L st μ := g_cmple (off := 16) (by decide +kernel) (by decide)
theorem i100_35 : m_G 100 35 [v0, v1, v2, .int x0, v4] st μ = m_G 100 36 [v0, v1, v2, .int x0, v4] (.int x0 :: st) μ := g_iload_n (i := 3) (by decide +kernel) rfl
theorem i100_36 : m_G 100 36 L st μ = m_G 100 38 L (.int 15 :: st) μ := g_bipush (n := 15) (by decide +kernel) (by decide)
theorem i100_38 (hy : ¬ x1 = 0) : m_G 100 38 L (.int x1 :: .int x0 :: st) μ = m_G 100 39 L (.int (x0 / x1) :: st) μ := g_idiv (by decide +kernel) hy
theorem i100_39 : m_G 100 39 L st μ = m_G 100 40 L (.int 1 :: st) μ := g_iconst (n := 1) (by decide +kernel) (by decide)
theorem i100_40 : m_G 100 40 L (.int x1 :: .int x0 :: st) μ = m_G 100 41 L (.int (x0 - x1) :: st) μ := g_isub (by decide +kernel)
theorem i100_41 : m_G 100 41 [v0, v1, v2, v3, v4] (.int x0 :: st) μ = m_G 100 42 [v0, v1, v2, .int x0, v4] st μ := g_istore_n (i := 3) (by decide +kernel) (Nat.le_of_ble_eq_true rfl) rfl
theorem i100_42 : m_G 100 42 [v0, v1, v2, v3, .int x0] st μ = m_G 100 45 [v0, v1, v2, v3, .int (x0 + (-1))] st μ := g_iinc (i := 4) (n := -1) (by decide +kernel) rfl (by decide) rfl
theorem i100_45 : m_G 100 45 L st μ = m_G 100 29 L st μ := g_goto (off := -16) (by decide +kernel) (by decide)
theorem i100_48 : m_G 100 48 [v0, v1, v2, .int x0, v4] st μ = m_G 100 49 [v0, v1, v2, .int x0, v4] (.int x0 :: st) μ := g_iload_n (i := 3) (by decide +kernel) rfl
theorem i100_49 : m_G 100 49 L st μ = m_G 100 51 L (.int 15 :: st) μ := g_bipush (n := 15) (by decide +kernel) (by decide)
theorem i100_51 (hy : ¬ x1 = 0) : m_G 100 51 L (.int x1 :: .int x0 :: st) μ = m_G 100 52 L (.int (x0 - x0 / x1 * x1) :: st) μ := g_irem (by decide +kernel) hy
theorem i100_52 : m_G 100 52 L [.int x0] μ = some (some (.int x0), μ) := g_ireti (by decide +kernel) (by decide)
theorem D100 : m_D 100 [.int x0, .int x1] μ = m_G 100 0 [.int x0, .int x1, m_d, m_d, m_d] [] μ := d_def (by decide) rfl
end i_21_ia
