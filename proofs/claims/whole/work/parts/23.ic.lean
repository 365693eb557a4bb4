section i_23_ic
variable {v0 v1 v2 v3 v4 v5 v6 v7 v8 v9 v10 v11 v12 v13 v14 v15 v16 v17 v18 v19 w0 w1 w2 w3 w4 w5 : Value} {x0 x1 x2 x3 x4 x5 x6 : Int32} {l0 l1 l2 l3 : Int64} {a0 a1 a2 a3 a4 a5 a6 : Nat} {st L : List Value} {μ : mM}
theorem i101_0 : m_G 101 0 [.ref a0] st μ = m_G 101 1 [.ref a0] (.ref a0 :: st) μ := g_aload_n (i := 0) (by decide +kernel) rfl
theorem i101_1 : m_G 101 1 L (.ref a0 :: []) μ = m_G 101 4 L [] μ := g_obj (i := 1) (by decide +kernel) (by decide +kernel) ⟨Nat.le_of_ble_eq_true rfl, by decide, by decide⟩
theorem i101_4 : m_G 101 4 [.ref a0] st μ = m_G 101 5 [.ref a0] (.ref a0 :: st) μ := g_aload_n (i := 0) (by decide +kernel) rfl
theorem i101_5 : m_G 101 5 L st μ = m_G 101 7 L (.int 8 :: st) μ := g_bipush (n := 8) (by decide +kernel) (by decide)
theorem i101_7 : m_G 101 7 L (.int x0 :: st) μ = if x_nok x0 = true then m_G 101 9 L (.ref (mN μ) :: st) (m_new μ x0.toNatClampNeg (m_ia 0 x0.toNatClampNeg (fun _ => 0))) else none := g_newa (t := .int) (by decide +kernel) rfl
theorem i101_9 : m_G 101 9 L (w0 :: .ref a0 :: st) μ = b_m (m_pf μ a0 9 1 (.array .int) w0) 101 12 L st := g_putf (i := 7) (by decide +kernel) (by decide +kernel) (Or.inr ⟨by decide, by decide⟩) (by decide)
theorem i101_12 : m_G 101 12 [.ref a0] st μ = m_G 101 13 [.ref a0] (.ref a0 :: st) μ := g_aload_n (i := 0) (by decide +kernel) rfl
theorem i101_13 : m_G 101 13 L st μ = m_G 101 16 L (.int 192 :: st) μ := g_sipush (n := 192) (by decide +kernel) (by decide)
theorem i101_16 : m_G 101 16 L (.int x0 :: st) μ = if x_nok x0 = true then m_G 101 18 L (.ref (mN μ) :: st) (m_new μ x0.toNatClampNeg (m_ia 0 x0.toNatClampNeg (fun _ => 0))) else none := g_newa (t := .int) (by decide +kernel) rfl
theorem i101_18 : m_G 101 18 L (w0 :: .ref a0 :: st) μ = b_m (m_pf μ a0 9 2 (.array .int) w0) 101 21 L st := g_putf (i := 13) (by decide +kernel) (by decide +kernel) (Or.inr ⟨by decide, by decide⟩) (by decide)
theorem i101_21 : m_G 101 21 [.ref a0] st μ = m_G 101 22 [.ref a0] (.ref a0 :: st) μ := g_aload_n (i := 0) (by decide +kernel) rfl
theorem i101_22 : m_G 101 22 L st μ = m_G 101 25 L (.int 192 :: st) μ := g_sipush (n := 192) (by decide +kernel) (by decide)
theorem i101_25 : m_G 101 25 L (.int x0 :: st) μ = if x_nok x0 = true then m_G 101 27 L (.ref (mN μ) :: st) (m_new μ x0.toNatClampNeg (m_ia 0 x0.toNatClampNeg (fun _ => 0))) else none := g_newa (t := .int) (by decide +kernel) rfl
theorem i101_27 : m_G 101 27 L (w0 :: .ref a0 :: st) μ = b_m (m_pf μ a0 9 3 (.array .int) w0) 101 30 L st := g_putf (i := 16) (by decide +kernel) (by decide +kernel) (Or.inr ⟨by decide, by decide⟩) (by decide)
theorem i101_30 : m_G 101 30 [.ref a0] st μ = m_G 101 31 [.ref a0] (.ref a0 :: st) μ := g_aload_n (i := 0) (by decide +kernel) rfl
theorem i101_31 : m_G 101 31 L st μ = m_G 101 34 L (.int 192 :: st) μ := g_sipush (n := 192) (by decide +kernel) (by decide)
theorem i101_34 : m_G 101 34 L (.int x0 :: st) μ = if x_nok x0 = true then m_G 101 36 L (.ref (mN μ) :: st) (m_new μ x0.toNatClampNeg (m_ia 0 x0.toNatClampNeg (fun _ => 0))) else none := g_newa (t := .int) (by decide +kernel) rfl
theorem i101_36 : m_G 101 36 L (w0 :: .ref a0 :: st) μ = b_m (m_pf μ a0 9 4 (.array .int) w0) 101 39 L st := g_putf (i := 19) (by decide +kernel) (by decide +kernel) (Or.inr ⟨by decide, by decide⟩) (by decide)
theorem i101_39 : m_G 101 39 [.ref a0] st μ = m_G 101 40 [.ref a0] (.ref a0 :: st) μ := g_aload_n (i := 0) (by decide +kernel) rfl
theorem i101_40 : m_G 101 40 L st μ = m_G 101 43 L (.int 192 :: st) μ := g_sipush (n := 192) (by decide +kernel) (by decide)
theorem i101_43 : m_G 101 43 L (.int x0 :: st) μ = if x_nok x0 = true then m_G 101 45 L (.ref (mN μ) :: st) (m_new μ x0.toNatClampNeg (m_ia 0 x0.toNatClampNeg (fun _ => 0))) else none := g_newa (t := .int) (by decide +kernel) rfl
theorem i101_45 : m_G 101 45 L (w0 :: .ref a0 :: st) μ = b_m (m_pf μ a0 9 5 (.array .int) w0) 101 48 L st := g_putf (i := 22) (by decide +kernel) (by decide +kernel) (Or.inr ⟨by decide, by decide⟩) (by decide)
theorem i101_48 : m_G 101 48 [.ref a0] st μ = m_G 101 49 [.ref a0] (.ref a0 :: st) μ := g_aload_n (i := 0) (by decide +kernel) rfl
theorem i101_49 : m_G 101 49 L st μ = m_G 101 51 L (.int 8 :: st) μ := g_bipush (n := 8) (by decide +kernel) (by decide)
theorem i101_51 : m_G 101 51 L (.int x0 :: st) μ = if x_nok x0 = true then m_G 101 53 L (.ref (mN μ) :: st) (m_new μ x0.toNatClampNeg (m_ia 1 x0.toNatClampNeg (fun _ => 0))) else none := g_newa (t := .boolean) (by decide +kernel) rfl
theorem i101_53 : m_G 101 53 L (w0 :: .ref a0 :: st) μ = b_m (m_pf μ a0 9 6 (.array .boolean) w0) 101 56 L st := g_putf (i := 25) (by decide +kernel) (by decide +kernel) (Or.inr ⟨by decide, by decide⟩) (by decide)
theorem i101_56 : m_G 101 56 [.ref a0] st μ = m_G 101 57 [.ref a0] (.ref a0 :: st) μ := g_aload_n (i := 0) (by decide +kernel) rfl
theorem i101_57 : m_G 101 57 L st μ = m_G 101 59 L (.int 90 :: st) μ := g_bipush (n := 90) (by decide +kernel) (by decide)
theorem i101_59 : m_G 101 59 L (.int x0 :: st) μ = if x_nok x0 = true then m_G 101 61 L (.ref (mN μ) :: st) (m_new μ x0.toNatClampNeg (m_ia 0 x0.toNatClampNeg (fun _ => 0))) else none := g_newa (t := .int) (by decide +kernel) rfl
theorem i101_61 : m_G 101 61 L (w0 :: .ref a0 :: st) μ = b_m (m_pf μ a0 9 7 (.array .int) w0) 101 64 L st := g_putf (i := 29) (by decide +kernel) (by decide +kernel) (Or.inr ⟨by decide, by decide⟩) (by decide)
theorem i101_64 : m_G 101 64 [.ref a0] st μ = m_G 101 65 [.ref a0] (.ref a0 :: st) μ := g_aload_n (i := 0) (by decide +kernel) rfl
theorem i101_65 : m_G 101 65 L st μ = m_G 101 67 L (.int 24 :: st) μ := g_bipush (n := 24) (by decide +kernel) (by decide)
theorem i101_67 : m_G 101 67 L (.int x0 :: st) μ = if x_nok x0 = true then m_G 101 69 L (.ref (mN μ) :: st) (m_new μ x0.toNatClampNeg (m_ia 0 x0.toNatClampNeg (fun _ => 0))) else none := g_newa (t := .int) (by decide +kernel) rfl
theorem i101_69 : m_G 101 69 L (w0 :: .ref a0 :: st) μ = b_m (m_pf μ a0 9 11 (.array .int) w0) 101 72 L st := g_putf (i := 32) (by decide +kernel) (by decide +kernel) (Or.inr ⟨by decide, by decide⟩) (by decide)
theorem i101_72 : m_G 101 72 [.ref a0] st μ = m_G 101 73 [.ref a0] (.ref a0 :: st) μ := g_aload_n (i := 0) (by decide +kernel) rfl
theorem i101_73 : m_G 101 73 L st μ = m_G 101 75 L (.int 24 :: st) μ := g_bipush (n := 24) (by decide +kernel) (by decide)
theorem i101_75 : m_G 101 75 L (.int x0 :: st) μ = if x_nok x0 = true then m_G 101 77 L (.ref (mN μ) :: st) (m_new μ x0.toNatClampNeg (m_ia 0 x0.toNatClampNeg (fun _ => 0))) else none := g_newa (t := .int) (by decide +kernel) rfl
theorem i101_77 : m_G 101 77 L (w0 :: .ref a0 :: st) μ = b_m (m_pf μ a0 9 12 (.array .int) w0) 101 80 L st := g_putf (i := 35) (by decide +kernel) (by decide +kernel) (Or.inr ⟨by decide, by decide⟩) (by decide)
theorem i101_80 : m_G 101 80 [.ref a0] st μ = m_G 101 81 [.ref a0] (.ref a0 :: st) μ := g_aload_n (i := 0) (by decide +kernel) rfl
theorem i101_81 : m_G 101 81 L st μ = m_G 101 83 L (.int 24 :: st) μ := g_bipush (n := 24) (by decide +kernel) (by decide)
theorem i101_83 : m_G 101 83 L (.int x0 :: st) μ = if x_nok x0 = true then m_G 101 85 L (.ref (mN μ) :: st) (m_new μ x0.toNatClampNeg (m_ia 0 x0.toNatClampNeg (fun _ => 0))) else none := g_newa (t := .int) (by decide +kernel) rfl
theorem i101_85 : m_G 101 85 L (w0 :: .ref a0 :: st) μ = b_m (m_pf μ a0 9 13 (.array .int) w0) 101 88 L st := g_putf (i := 38) (by decide +kernel) (by decide +kernel) (Or.inr ⟨by decide, by decide⟩) (by decide)
theorem i101_88 : m_G 101 88 [.ref a0] st μ = m_G 101 89 [.ref a0] (.ref a0 :: st) μ := g_aload_n (i := 0) (by decide +kernel) rfl
theorem i101_89 : m_G 101 89 L st μ = m_G 101 91 L (.int 6 :: st) μ := g_bipush (n := 6) (by decide +kernel) (by decide)
theorem i101_91 : m_G 101 91 L (.int x0 :: st) μ = if x_nok x0 = true then m_G 101 93 L (.ref (mN μ) :: st) (m_new μ x0.toNatClampNeg (m_ia 0 x0.toNatClampNeg (fun _ => 0))) else none := g_newa (t := .int) (by decide +kernel) rfl
theorem i101_93 : m_G 101 93 L (w0 :: .ref a0 :: st) μ = b_m (m_pf μ a0 9 15 (.array .int) w0) 101 96 L st := g_putf (i := 41) (by decide +kernel) (by decide +kernel) (Or.inr ⟨by decide, by decide⟩) (by decide)
theorem i101_96 : m_G 101 96 [.ref a0] st μ = m_G 101 97 [.ref a0] (.ref a0 :: st) μ := g_aload_n (i := 0) (by decide +kernel) rfl
theorem i101_97 : m_G 101 97 L st μ = m_G 101 99 L (.int 10 :: st) μ := g_bipush (n := 10) (by decide +kernel) (by decide)
theorem i101_99 : m_G 101 99 L (.int x0 :: st) μ = if x_nok x0 = true then m_G 101 101 L (.ref (mN μ) :: st) (m_new μ x0.toNatClampNeg (m_ia 0 x0.toNatClampNeg (fun _ => 0))) else none := g_newa (t := .int) (by decide +kernel) rfl
theorem i101_101 : m_G 101 101 L (w0 :: .ref a0 :: st) μ = b_m (m_pf μ a0 9 18 (.array .int) w0) 101 104 L st := g_putf (i := 44) (by decide +kernel) (by decide +kernel) (Or.inr ⟨by decide, by decide⟩) (by decide)
theorem i101_104 : m_G 101 104 [.ref a0] st μ = m_G 101 105 [.ref a0] (.ref a0 :: st) μ := g_aload_n (i := 0) (by decide +kernel) rfl
theorem i101_105 : m_G 101 105 L st μ = m_G 101 107 L (.int 10 :: st) μ := g_bipush (n := 10) (by decide +kernel) (by decide)
theorem i101_107 : m_G 101 107 L (.int x0 :: st) μ = if x_nok x0 = true then m_G 101 109 L (.ref (mN μ) :: st) (m_new μ x0.toNatClampNeg (m_ia 0 x0.toNatClampNeg (fun _ => 0))) else none := g_newa (t := .int) (by decide +kernel) rfl
theorem i101_109 : m_G 101 109 L (w0 :: .ref a0 :: st) μ = b_m (m_pf μ a0 9 19 (.array .int) w0) 101 112 L st := g_putf (i := 47) (by decide +kernel) (by decide +kernel) (Or.inr ⟨by decide, by decide⟩) (by decide)
theorem i101_112 : m_G 101 112 [.ref a0] st μ = m_G 101 113 [.ref a0] (.ref a0 :: st) μ := g_aload_n (i := 0) (by decide +kernel) rfl
theorem i101_113 : m_G 101 113 L st μ = m_G 101 115 L (.int 60 :: st) μ := g_bipush (n := 60) (by decide +kernel) (by decide)
theorem i101_115 : m_G 101 115 L (.int x0 :: st) μ = if x_nok x0 = true then m_G 101 117 L (.ref (mN μ) :: st) (m_new μ x0.toNatClampNeg (m_ia 0 x0.toNatClampNeg (fun _ => 0))) else none := g_newa (t := .int) (by decide +kernel) rfl
theorem i101_117 : m_G 101 117 L (w0 :: .ref a0 :: st) μ = b_m (m_pf μ a0 9 20 (.array .int) w0) 101 120 L st := g_putf (i := 50) (by decide +kernel) (by decide +kernel) (Or.inr ⟨by decide, by decide⟩) (by decide)
theorem i101_120 : m_G 101 120 [.ref a0] st μ = m_G 101 121 [.ref a0] (.ref a0 :: st) μ := g_aload_n (i := 0) (by decide +kernel) rfl
theorem i101_121 : m_G 101 121 L st μ = m_G 101 124 L (.int 360 :: st) μ := g_sipush (n := 360) (by decide +kernel) (by decide)
theorem i101_124 : m_G 101 124 L (.int x0 :: st) μ = if x_nok x0 = true then m_G 101 126 L (.ref (mN μ) :: st) (m_new μ x0.toNatClampNeg (m_ia 0 x0.toNatClampNeg (fun _ => 0))) else none := g_newa (t := .int) (by decide +kernel) rfl
theorem i101_126 : m_G 101 126 L (w0 :: .ref a0 :: st) μ = b_m (m_pf μ a0 9 21 (.array .int) w0) 101 129 L st := g_putf (i := 53) (by decide +kernel) (by decide +kernel) (Or.inr ⟨by decide, by decide⟩) (by decide)
theorem i101_129 : m_G 101 129 [.ref a0] st μ = m_G 101 130 [.ref a0] (.ref a0 :: st) μ := g_aload_n (i := 0) (by decide +kernel) rfl
theorem i101_130 : m_G 101 130 L st μ = m_G 101 133 L (.int 3615 :: st) μ := g_sipush (n := 3615) (by decide +kernel) (by decide)
theorem i101_133 : m_G 101 133 L (.int x0 :: st) μ = if x_nok x0 = true then m_G 101 135 L (.ref (mN μ) :: st) (m_new μ x0.toNatClampNeg (m_ia 1 x0.toNatClampNeg (fun _ => 0))) else none := g_newa (t := .boolean) (by decide +kernel) rfl
theorem i101_135 : m_G 101 135 L (w0 :: .ref a0 :: st) μ = b_m (m_pf μ a0 9 22 (.array .boolean) w0) 101 138 L st := g_putf (i := 56) (by decide +kernel) (by decide +kernel) (Or.inr ⟨by decide, by decide⟩) (by decide)
theorem i101_138 : m_G 101 138 [.ref a0] st μ = m_G 101 139 [.ref a0] (.ref a0 :: st) μ := g_aload_n (i := 0) (by decide +kernel) rfl
theorem i101_139 : m_G 101 139 L st μ = m_G 101 142 L (.int 3615 :: st) μ := g_sipush (n := 3615) (by decide +kernel) (by decide)
theorem i101_142 : m_G 101 142 L (.int x0 :: st) μ = if x_nok x0 = true then m_G 101 144 L (.ref (mN μ) :: st) (m_new μ x0.toNatClampNeg (m_ia 0 x0.toNatClampNeg (fun _ => 0))) else none := g_newa (t := .int) (by decide +kernel) rfl
theorem i101_144 : m_G 101 144 L (w0 :: .ref a0 :: st) μ = b_m (m_pf μ a0 9 24 (.array .int) w0) 101 147 L st := g_putf (i := 59) (by decide +kernel) (by decide +kernel) (Or.inr ⟨by decide, by decide⟩) (by decide)
theorem i101_147 : m_G 101 147 [.ref a0] st μ = m_G 101 148 [.ref a0] (.ref a0 :: st) μ := g_aload_n (i := 0) (by decide +kernel) rfl
theorem i101_148 : m_G 101 148 L st μ = m_G 101 151 L (.int 28920 :: st) μ := g_sipush (n := 28920) (by decide +kernel) (by decide)
theorem i101_151 : m_G 101 151 L (.int x0 :: st) μ = if x_nok x0 = true then m_G 101 153 L (.ref (mN μ) :: st) (m_new μ x0.toNatClampNeg (m_ia 0 x0.toNatClampNeg (fun _ => 0))) else none := g_newa (t := .int) (by decide +kernel) rfl
theorem i101_153 : m_G 101 153 L (w0 :: .ref a0 :: st) μ = b_m (m_pf μ a0 9 25 (.array .int) w0) 101 156 L st := g_putf (i := 62) (by decide +kernel) (by decide +kernel) (Or.inr ⟨by decide, by decide⟩) (by decide)
theorem i101_156 : m_G 101 156 [.ref a0] st μ = m_G 101 157 [.ref a0] (.ref a0 :: st) μ := g_aload_n (i := 0) (by decide +kernel) rfl
theorem i101_157 : m_G 101 157 L st μ = m_G 101 159 L (.int 24 :: st) μ := g_bipush (n := 24) (by decide +kernel) (by decide)
theorem i101_159 : m_G 101 159 L (.int x0 :: st) μ = if x_nok x0 = true then m_G 101 161 L (.ref (mN μ) :: st) (m_new μ x0.toNatClampNeg (m_ia 0 x0.toNatClampNeg (fun _ => 0))) else none := g_newa (t := .int) (by decide +kernel) rfl
theorem i101_161 : m_G 101 161 L (w0 :: .ref a0 :: st) μ = b_m (m_pf μ a0 9 26 (.array .int) w0) 101 164 L st := g_putf (i := 65) (by decide +kernel) (by decide +kernel) (Or.inr ⟨by decide, by decide⟩) (by decide)
theorem i101_164 : m_G 101 164 [.ref a0] st μ = m_G 101 165 [.ref a0] (.ref a0 :: st) μ := g_aload_n (i := 0) (by decide +kernel) rfl
theorem i101_165 : m_G 101 165 L st μ = m_G 101 167 L (.int 8 :: st) μ := g_bipush (n := 8) (by decide +kernel) (by decide)
theorem i101_167 : m_G 101 167 L (.int x0 :: st) μ = if x_nok x0 = true then m_G 101 169 L (.ref (mN μ) :: st) (m_new μ x0.toNatClampNeg (m_ia 0 x0.toNatClampNeg (fun _ => 0))) else none := g_newa (t := .int) (by decide +kernel) rfl
theorem i101_169 : m_G 101 169 L (w0 :: .ref a0 :: st) μ = b_m (m_pf μ a0 9 28 (.array .int) w0) 101 172 L st := g_putf (i := 68) (by decide +kernel) (by decide +kernel) (Or.inr ⟨by decide, by decide⟩) (by decide)
theorem i101_172 : m_G 101 172 [.ref a0] st μ = m_G 101 173 [.ref a0] (.ref a0 :: st) μ := g_aload_n (i := 0) (by decide +kernel) rfl
theorem i101_173 : m_G 101 173 L st μ = m_G 101 175 L (.int 8 :: st) μ := g_bipush (n := 8) (by decide +kernel) (by decide)
theorem i101_175 : m_G 101 175 L (.int x0 :: st) μ = if x_nok x0 = true then m_G 101 177 L (.ref (mN μ) :: st) (m_new μ x0.toNatClampNeg (m_ia 0 x0.toNatClampNeg (fun _ => 0))) else none := g_newa (t := .int) (by decide +kernel) rfl
theorem i101_177 : m_G 101 177 L (w0 :: .ref a0 :: st) μ = b_m (m_pf μ a0 9 29 (.array .int) w0) 101 180 L st := g_putf (i := 71) (by decide +kernel) (by decide +kernel) (Or.inr ⟨by decide, by decide⟩) (by decide)
theorem i101_180 : m_G 101 180 [.ref a0] st μ = m_G 101 181 [.ref a0] (.ref a0 :: st) μ := g_aload_n (i := 0) (by decide +kernel) rfl
theorem i101_181 : m_G 101 181 L st μ = m_G 101 183 L (.int 8 :: st) μ := g_bipush (n := 8) (by decide +kernel) (by decide)
theorem i101_183 : m_G 101 183 L (.int x0 :: st) μ = if x_nok x0 = true then m_G 101 185 L (.ref (mN μ) :: st) (m_new μ x0.toNatClampNeg (m_ia 0 x0.toNatClampNeg (fun _ => 0))) else none := g_newa (t := .int) (by decide +kernel) rfl
theorem i101_185 : m_G 101 185 L (w0 :: .ref a0 :: st) μ = b_m (m_pf μ a0 9 30 (.array .int) w0) 101 188 L st := g_putf (i := 74) (by decide +kernel) (by decide +kernel) (Or.inr ⟨by decide, by decide⟩) (by decide)
theorem i101_188 : m_G 101 188 [.ref a0] st μ = m_G 101 189 [.ref a0] (.ref a0 :: st) μ := g_aload_n (i := 0) (by decide +kernel) rfl
theorem i101_189 : m_G 101 189 L st μ = m_G 101 191 L (.int 100 :: st) μ := g_bipush (n := 100) (by decide +kernel) (by decide)
theorem i101_191 : m_G 101 191 L (.int x0 :: st) μ = if x_nok x0 = true then m_G 101 193 L (.ref (mN μ) :: st) (m_new μ x0.toNatClampNeg (m_ia 0 x0.toNatClampNeg (fun _ => 0))) else none := g_newa (t := .int) (by decide +kernel) rfl
theorem i101_193 : m_G 101 193 L (w0 :: .ref a0 :: st) μ = b_m (m_pf μ a0 9 31 (.array .int) w0) 101 196 L st := g_putf (i := 77) (by decide +kernel) (by decide +kernel) (Or.inr ⟨by decide, by decide⟩) (by decide)
theorem i101_196 : m_G 101 196 [.ref a0] st μ = m_G 101 197 [.ref a0] (.ref a0 :: st) μ := g_aload_n (i := 0) (by decide +kernel) rfl
theorem i101_197 : m_G 101 197 L st μ = m_G 101 199 L (.int 100 :: st) μ := g_bipush (n := 100) (by decide +kernel) (by decide)
theorem i101_199 : m_G 101 199 L (.int x0 :: st) μ = if x_nok x0 = true then m_G 101 201 L (.ref (mN μ) :: st) (m_new μ x0.toNatClampNeg (m_ia 1 x0.toNatClampNeg (fun _ => 0))) else none := g_newa (t := .boolean) (by decide +kernel) rfl
theorem i101_201 : m_G 101 201 L (w0 :: .ref a0 :: st) μ = b_m (m_pf μ a0 9 32 (.array .boolean) w0) 101 204 L st := g_putf (i := 80) (by decide +kernel) (by decide +kernel) (Or.inr ⟨by decide, by decide⟩) (by decide)
theorem i101_204 : m_G 101 204 [.ref a0] st μ = m_G 101 205 [.ref a0] (.ref a0 :: st) μ := g_aload_n (i := 0) (by decide +kernel) rfl
theorem i101_205 : m_G 101 205 L st μ = m_G 101 208 L (.int 576 :: st) μ := g_sipush (n := 576) (by decide +kernel) (by decide)
theorem i101_208 : m_G 101 208 L (.int x0 :: st) μ = if x_nok x0 = true then m_G 101 210 L (.ref (mN μ) :: st) (m_new μ x0.toNatClampNeg (m_ia 0 x0.toNatClampNeg (fun _ => 0))) else none := g_newa (t := .int) (by decide +kernel) rfl
theorem i101_210 : m_G 101 210 L (w0 :: .ref a0 :: st) μ = b_m (m_pf μ a0 9 33 (.array .int) w0) 101 213 L st := g_putf (i := 83) (by decide +kernel) (by decide +kernel) (Or.inr ⟨by decide, by decide⟩) (by decide)
theorem i101_213 : m_G 101 213 [.ref a0] st μ = m_G 101 214 [.ref a0] (.ref a0 :: st) μ := g_aload_n (i := 0) (by decide +kernel) rfl
theorem i101_214 : m_G 101 214 L st μ = m_G 101 217 L (.int 625 :: st) μ := g_sipush (n := 625) (by decide +kernel) (by decide)
theorem i101_217 : m_G 101 217 L (.int x0 :: st) μ = if x_nok x0 = true then m_G 101 219 L (.ref (mN μ) :: st) (m_new μ x0.toNatClampNeg (m_ia 0 x0.toNatClampNeg (fun _ => 0))) else none := g_newa (t := .int) (by decide +kernel) rfl
theorem i101_219 : m_G 101 219 L (w0 :: .ref a0 :: st) μ = b_m (m_pf μ a0 9 34 (.array .int) w0) 101 222 L st := g_putf (i := 86) (by decide +kernel) (by decide +kernel) (Or.inr ⟨by decide, by decide⟩) (by decide)
theorem i101_222 : m_G 101 222 [.ref a0] st μ = m_G 101 223 [.ref a0] (.ref a0 :: st) μ := g_aload_n (i := 0) (by decide +kernel) rfl
theorem i101_223 : m_G 101 223 L st μ = m_G 101 225 L (.int 24 :: st) μ := g_bipush (n := 24) (by decide +kernel) (by decide)
theorem i101_225 : m_G 101 225 L (.int x0 :: st) μ = if x_nok x0 = true then m_G 101 227 L (.ref (mN μ) :: st) (m_new μ x0.toNatClampNeg (m_ia 0 x0.toNatClampNeg (fun _ => 0))) else none := g_newa (t := .int) (by decide +kernel) rfl
theorem i101_227 : m_G 101 227 L (w0 :: .ref a0 :: st) μ = b_m (m_pf μ a0 9 35 (.array .int) w0) 101 230 L st := g_putf (i := 89) (by decide +kernel) (by decide +kernel) (Or.inr ⟨by decide, by decide⟩) (by decide)
theorem i101_230 : m_G 101 230 [.ref a0] st μ = m_G 101 231 [.ref a0] (.ref a0 :: st) μ := g_aload_n (i := 0) (by decide +kernel) rfl
theorem i101_231 : m_G 101 231 L st μ = m_G 101 233 L (.int 24 :: st) μ := g_bipush (n := 24) (by decide +kernel) (by decide)
theorem i101_233 : m_G 101 233 L (.int x0 :: st) μ = if x_nok x0 = true then m_G 101 235 L (.ref (mN μ) :: st) (m_new μ x0.toNatClampNeg (m_ia 0 x0.toNatClampNeg (fun _ => 0))) else none := g_newa (t := .int) (by decide +kernel) rfl
theorem i101_235 : m_G 101 235 L (w0 :: .ref a0 :: st) μ = b_m (m_pf μ a0 9 36 (.array .int) w0) 101 238 L st := g_putf (i := 92) (by decide +kernel) (by decide +kernel) (Or.inr ⟨by decide, by decide⟩) (by decide)
theorem i101_238 : m_G 101 238 [.ref a0] st μ = m_G 101 239 [.ref a0] (.ref a0 :: st) μ := g_aload_n (i := 0) (by decide +kernel) rfl
theorem i101_239 : m_G 101 239 L st μ = m_G 101 240 L (.int 0 :: st) μ := g_iconst (n := 0) (by decide +kernel) (by decide)
theorem i101_240 : m_G 101 240 L (w0 :: .ref a0 :: st) μ = b_m (m_pf μ a0 9 10 .int w0) 101 243 L st := g_putf (i := 95) (by decide +kernel) (by decide +kernel) (Or.inl (by decide)) (by decide)
theorem i101_243 : m_G 101 243 L [] μ = some (none, μ) := g_ret (by decide +kernel) (by decide)
theorem D101 : m_D 101 [.ref a0] μ = m_G 101 0 [.ref a0] [] μ := d_def (by decide) rfl
theorem i102_0 : m_G 102 0 [.long l0, v1, v2, v3, v4, v5] st μ = m_G 102 1 [.long l0, v1, v2, v3, v4, v5] (.long l0 :: st) μ := g_lload_n (i := 0) (by decide +kernel) rfl
theorem i102_1 : m_G 102 1 [v0, v1, .long l0, v3, v4, v5] st μ = m_G 102 2 [v0, v1, .long l0, v3, v4, v5] (.long l0 :: st) μ := g_lload_n (i := 2) (by decide +kernel) rfl
theorem i102_2 : m_G 102 2 L (.long l1 :: .long l0 :: st) μ = m_G 102 3 L (.int (lg_cmp l0 l1) :: st) μ := g_lcmp (by decide +kernel)
theorem i102_3 : m_G 102 3 L (.int x0 :: st) μ = if x0 < 0 then m_G 102 17 L st μ else m_G 102 6 L st μ := g_iflt (off := 14) (by decide +kernel) (by decide)
theorem i102_6 : m_G 102 6 [.long l0, v1, v2, v3, v4, v5] st μ = m_G 102 7 [.long l0, v1, v2, v3, v4, v5] (.long l0 :: st) μ := g_lload_n (i := 0) (by decide +kernel) rfl
theorem i102_7 : m_G 102 7 [v0, v1, v2, v3, .long l0, v5] st μ = m_G 102 9 [v0, v1, v2, v3, .long l0, v5] (.long l0 :: st) μ := g_lload (i := 4) (by decide +kernel) rfl
theorem i102_9 : m_G 102 9 L (.long l1 :: .long l0 :: st) μ = m_G 102 10 L (.int (lg_cmp l0 l1) :: st) μ := g_lcmp (by decide +kernel)
theorem i102_10 : m_G 102 10 L (.int x0 :: st) μ = if 0 < x0 then m_G 102 17 L st μ else m_G 102 13 L st μ := g_ifgt (off := 7) (by decide +kernel) (by decide)
theorem i102_13 : m_G 102 13 L st μ = m_G 102 14 L (.int 1 :: st) μ := g_iconst (n := 1) (by decide +kernel) (by decide)
theorem i102_14 : m_G 102 14 L st μ = m_G 102 18 L st μ := g_goto (off := 4) (by decide +kernel) (by decide)
theorem i102_17 : m_G 102 17 L st μ = m_G 102 18 L (.int 0 :: st) μ := g_iconst (n := 0) (by decide +kernel) (by decide)
theorem i102_18 (h : x0 &&& 1 = x0) : m_G 102 18 L [.int x0] μ = some (some (.int x0), μ) := g_iretz (by decide +kernel) (by decide) h
theorem D102 : m_D 102 [.long l0, .long l1, .long l2] μ = m_G 102 0 [.long l0, m_d, .long l1, m_d, .long l2, m_d] [] μ := d_def (by decide) rfl
theorem i103_0 : m_G 103 0 L st μ = m_G 103 1 L (.int 0 :: st) μ := g_iconst (n := 0) (by decide +kernel) (by decide)
theorem i103_1 : m_G 103 1 [v0, v1, v2] (.int x0 :: st) μ = m_G 103 2 [v0, .int x0, v2] st μ := g_istore_n (i := 1) (by decide +kernel) (Nat.le_of_ble_eq_true rfl) rfl
theorem i103_2 : m_G 103 2 L st μ = m_G 103 3 L (.int 0 :: st) μ := g_iconst (n := 0) (by decide +kernel) (by decide)
theorem i103_3 : m_G 103 3 [v0, v1, v2] (.int x0 :: st) μ = m_G 103 4 [v0, v1, .int x0] st μ := g_istore_n (i := 2) (by decide +kernel) (Nat.le_of_ble_eq_true rfl) rfl
theorem i103_4 : m_G 103 4 [v0, v1, .int x0] st μ = m_G 103 5 [v0, v1, .int x0] (.int x0 :: st) μ := g_iload_n (i := 2) (by decide +kernel) rfl
theorem i103_5 : m_G 103 5 L st μ = m_G 103 7 L (.int 24 :: st) μ := g_bipush (n := 24) (by decide +kernel) (by decide)
theorem i103_7 : m_G 103 7 L (.int x1 :: .int x0 :: st) μ = if x0 < x1 then m_G 103 10 L st μ else m_G 103 24 L st μ := g_cmpge (off := 17) (by decide +kernel) (by decide)
theorem i103_10 : m_G 103 10 [v0, .int x0, v2] st μ = m_G 103 11 [v0, .int x0, v2] (.int x0 :: st) μ := g_iload_n (i := 1) (by decide +kernel) rfl
theorem i103_11 : m_G 103 11 [.int x0, v1, v2] st μ = m_G 103 12 [.int x0, v1, v2] (.int x0 :: st) μ := g_iload_n (i := 0) (by decide +kernel) rfl
theorem i103_12 : m_G 103 12 [v0, v1, .int x0] st μ = m_G 103 13 [v0, v1, .int x0] (.int x0 :: st) μ := g_iload_n (i := 2) (by decide +kernel) rfl
theorem i103_13 : m_G 103 13 L (.int x1 :: .int x0 :: st) μ = m_G 103 14 L (.int (x0 >>> (x1 &&& 31)) :: st) μ := g_ishr (by decide +kernel)
theorem i103_14 : m_G 103 14 L st μ = m_G 103 15 L (.int 1 :: st) μ := g_iconst (n := 1) (by decide +kernel) (by decide)
theorem i103_15 : m_G 103 15 L (.int x1 :: .int x0 :: st) μ = m_G 103 16 L (.int (x0 &&& x1) :: st) μ := g_iand (by decide +kernel)
theorem i103_16 : m_G 103 16 L (.int x1 :: .int x0 :: st) μ = m_G 103 17 L (.int (x0 + x1) :: st) μ := g_iadd (by decide +kernel)
theorem i103_17 : m_G 103 17 [v0, v1, v2] (.int x0 :: st) μ = m_G 103 18 [v0, .int x0, v2] st μ := g_istore_n (i := 1) (by decide +kernel) (Nat.le_of_ble_eq_true rfl) rfl
theorem i103_18 : m_G 103 18 [v0, v1, .int x0] st μ = m_G 103 21 [v0, v1, .int (x0 + 1)] st μ := g_iinc (i := 2) (n := 1) (by decide +kernel) rfl (by decide) rfl
theorem i103_21 : m_G 103 21 L st μ = m_G 103 4 L st μ := g_goto (off := -17) (by decide +kernel) (by decide)
theorem i103_24 : m_G 103 24 [v0, .int x0, v2] st μ = m_G 103 25 [v0, .int x0, v2] (.int x0 :: st) μ := g_iload_n (i := 1) (by decide +kernel) rfl
theorem i103_25 : m_G 103 25 L [.int x0] μ = some (some (.int x0), μ) := g_ireti (by decide +kernel) (by decide)
theorem D103 : m_D 103 [.int x0] μ = m_G 103 0 [.int x0, m_d, m_d] [] μ := d_def (by decide) rfl
theorem i104_0 : m_G 104 0 [.int x0, v1] st μ = m_G 104 1 [.int x0, v1] (.int x0 :: st) μ := g_iload_n (i := 0) (by decide +kernel) rfl
theorem i104_1 : m_G 104 1 [v0, .int x0] st μ = m_G 104 2 [v0, .int x0] (.int x0 :: st) μ := g_iload_n (i := 1) (by decide +kernel) rfl
theorem i104_2 : m_G 104 2 L (.int x1 :: .int x0 :: st) μ = m_G 104 3 L (.int (x0 >>> (x1 &&& 31)) :: st) μ := g_ishr (by decide +kernel)
theorem i104_3 : m_G 104 3 L st μ = m_G 104 4 L (.int 1 :: st) μ := g_iconst (n := 1) (by decide +kernel) (by decide)
theorem i104_4 : m_G 104 4 L (.int x1 :: .int x0 :: st) μ = m_G 104 5 L (.int (x0 &&& x1) :: st) μ := g_iand (by decide +kernel)
theorem i104_5 : m_G 104 5 L st μ = m_G 104 6 L (.int 1 :: st) μ := g_iconst (n := 1) (by decide +kernel) (by decide)
theorem i104_6 : m_G 104 6 L (.int x1 :: .int x0 :: st) μ = if x0 = x1 then m_G 104 9 L st μ else m_G 104 13 L st μ := g_cmpne (off := 7) (by decide +kernel) (by decide)
theorem i104_9 : m_G 104 9 L st μ = m_G 104 10 L (.int 1 :: st) μ := g_iconst (n := 1) (by decide +kernel) (by decide)
theorem i104_10 : m_G 104 10 L st μ = m_G 104 14 L st μ := g_goto (off := 4) (by decide +kernel) (by decide)
theorem i104_13 : m_G 104 13 L st μ = m_G 104 14 L (.int 0 :: st) μ := g_iconst (n := 0) (by decide +kernel) (by decide)
theorem i104_14 (h : x0 &&& 1 = x0) : m_G 104 14 L [.int x0] μ = some (some (.int x0), μ) := g_iretz (by decide +kernel) (by decide) h
theorem D104 : m_D 104 [.int x0, .int x1] μ = m_G 104 0 [.int x0, .int x1] [] μ := d_def (by decide) rfl
theorem i105_0 : m_G 105 0 [v0, .int x0] st μ = m_G 105 1 [v0, .int x0] (.int x0 :: st) μ := g_iload_n (i := 1) (by decide +kernel) rfl
theorem i105_1 : m_G 105 1 L (.int x0 :: st) μ = m_G 105 2 L (.long x0.toInt64 :: st) μ := g_i2l (by decide +kernel)
theorem i105_2 : m_G 105 2 L st μ = m_G 105 3 L (.long 0 :: st) μ := g_lconst (n := 0) (by decide +kernel) (by decide)
theorem i105_3 : m_G 105 3 [.ref a0, v1] st μ = m_G 105 4 [.ref a0, v1] (.ref a0 :: st) μ := g_aload_n (i := 0) (by decide +kernel) rfl
theorem i105_4 : m_G 105 4 L (.ref a0 :: st) μ = b_v (m_gf μ a0 9 0) 105 7 L st μ := g_getf (i := 99) (by decide +kernel) (by decide +kernel)
theorem i105_7 : m_G 105 7 L st μ = m_G 105 8 L (.int 1 :: st) μ := g_iconst (n := 1) (by decide +kernel) (by decide)
theorem i105_8 : m_G 105 8 L (.int x1 :: .int x0 :: st) μ = m_G 105 9 L (.int (x0 - x1) :: st) μ := g_isub (by decide +kernel)
theorem i105_9 : m_G 105 9 L (.int x0 :: st) μ = m_G 105 10 L (.long x0.toInt64 :: st) μ := g_i2l (by decide +kernel)
theorem i105_10 : m_G 105 10 L (.long l2 :: .long l1 :: .long l0 :: []) μ = b_c (m_D 102 [.long l0, .long l1, .long l2] μ) 105 13 L [] := g_stat (i := 102) (n := 3) (by decide +kernel) (by decide +kernel) (by decide) (x_call_ok (ws := [2, 2, 2]) (Nat.le_of_ble_eq_true rfl) rfl (by decide +kernel) rfl (by decide +kernel) rfl rfl)
theorem i105_13 (h : x0 &&& 1 = x0) : m_G 105 13 L [.int x0] μ = some (some (.int x0), μ) := g_iretz (by decide +kernel) (by decide) h
theorem D105 : m_D 105 [.ref a0, .int x0] μ = m_G 105 0 [.ref a0, .int x0] [] μ := d_def (by decide) rfl
theorem i106_0 : m_G 106 0 [.ref a0, v1, v2] st μ = m_G 106 1 [.ref a0, v1, v2] (.ref a0 :: st) μ := g_aload_n (i := 0) (by decide +kernel) rfl
theorem i106_1 : m_G 106 1 [v0, .int x0, v2] st μ = m_G 106 2 [v0, .int x0, v2] (.int x0 :: st) μ := g_iload_n (i := 1) (by decide +kernel) rfl
theorem i106_2 (ho : m_oc μ a0 = some 9) : m_G 106 2 L (.int x0 :: .ref a0 :: []) μ = b_c (m_D 105 [.ref a0, .int x0] μ) 106 5 L [] := g_virt (i := 106) (n := 1) (a := a0) (c := 9) (l := [(9, 105)]) (by decide +kernel) (by decide +kernel) rfl rfl (x_call_ok (ws := [1, 1]) (Nat.le_of_ble_eq_true rfl) rfl (by decide +kernel) rfl (by decide +kernel) rfl rfl) ho
theorem i106_5 : m_G 106 5 L (.int x0 :: st) μ = if x0 = 0 then m_G 106 30 L st μ else m_G 106 8 L st μ := g_ifeq (off := 25) (by decide +kernel) (by decide)
theorem i106_8 : m_G 106 8 [v0, v1, .int x0] st μ = m_G 106 9 [v0, v1, .int x0] (.int x0 :: st) μ := g_iload_n (i := 2) (by decide +kernel) rfl
theorem i106_9 : m_G 106 9 L (.int x0 :: st) μ = m_G 106 10 L (.long x0.toInt64 :: st) μ := g_i2l (by decide +kernel)
theorem i106_10 : m_G 106 10 L st μ = m_G 106 11 L (.long 0 :: st) μ := g_lconst (n := 0) (by decide +kernel) (by decide)
theorem i106_11 : m_G 106 11 [.ref a0, v1, v2] st μ = m_G 106 12 [.ref a0, v1, v2] (.ref a0 :: st) μ := g_aload_n (i := 0) (by decide +kernel) rfl
theorem i106_12 : m_G 106 12 L (.ref a0 :: st) μ = b_v (m_gf μ a0 9 1) 106 15 L st μ := g_getf (i := 7) (by decide +kernel) (by decide +kernel)
theorem i106_15 : m_G 106 15 [v0, .int x0, v2] st μ = m_G 106 16 [v0, .int x0, v2] (.int x0 :: st) μ := g_iload_n (i := 1) (by decide +kernel) rfl
theorem i106_16 : m_G 106 16 L (.int x0 :: .ref a0 :: st) μ = b_i (m_ga μ a0 x0) 106 17 L st μ := g_iald (by decide +kernel)
theorem i106_17 : m_G 106 17 L st μ = m_G 106 18 L (.int 1 :: st) μ := g_iconst (n := 1) (by decide +kernel) (by decide)
theorem i106_18 : m_G 106 18 L (.int x1 :: .int x0 :: st) μ = m_G 106 19 L (.int (x0 - x1) :: st) μ := g_isub (by decide +kernel)
theorem i106_19 : m_G 106 19 L (.int x0 :: st) μ = m_G 106 20 L (.long x0.toInt64 :: st) μ := g_i2l (by decide +kernel)
theorem i106_20 : m_G 106 20 L (.long l2 :: .long l1 :: .long l0 :: []) μ = b_c (m_D 102 [.long l0, .long l1, .long l2] μ) 106 23 L [] := g_stat (i := 102) (n := 3) (by decide +kernel) (by decide +kernel) (by decide) (x_call_ok (ws := [2, 2, 2]) (Nat.le_of_ble_eq_true rfl) rfl (by decide +kernel) rfl (by decide +kernel) rfl rfl)
theorem i106_23 : m_G 106 23 L (.int x0 :: st) μ = if x0 = 0 then m_G 106 30 L st μ else m_G 106 26 L st μ := g_ifeq (off := 7) (by decide +kernel) (by decide)
theorem i106_26 : m_G 106 26 L st μ = m_G 106 27 L (.int 1 :: st) μ := g_iconst (n := 1) (by decide +kernel) (by decide)
theorem i106_27 : m_G 106 27 L st μ = m_G 106 31 L st μ := g_goto (off := 4) (by decide +kernel) (by decide)
theorem i106_30 : m_G 106 30 L st μ = m_G 106 31 L (.int 0 :: st) μ := g_iconst (n := 0) (by decide +kernel) (by decide)
theorem i106_31 (h : x0 &&& 1 = x0) : m_G 106 31 L [.int x0] μ = some (some (.int x0), μ) := g_iretz (by decide +kernel) (by decide) h
theorem D106 : m_D 106 [.ref a0, .int x0, .int x1] μ = m_G 106 0 [.ref a0, .int x0, .int x1] [] μ := d_def (by decide) rfl
theorem i107_0 : m_G 107 0 L st μ = m_G 107 1 L (.int 0 :: st) μ := g_iconst (n := 0) (by decide +kernel) (by decide)
theorem i107_1 : m_G 107 1 [v0, v1, v2, v3, v4, v5, v6, v7, v8] (.int x0 :: st) μ = m_G 107 2 [v0, v1, v2, .int x0, v4, v5, v6, v7, v8] st μ := g_istore_n (i := 3) (by decide +kernel) (Nat.le_of_ble_eq_true rfl) rfl
theorem i107_2 : m_G 107 2 L st μ = m_G 107 3 L (.int 1 :: st) μ := g_iconst (n := 1) (by decide +kernel) (by decide)
theorem i107_3 : m_G 107 3 [v0, v1, v2, v3, v4, v5, v6, v7, v8] (.int x0 :: st) μ = m_G 107 5 [v0, v1, v2, v3, .int x0, v5, v6, v7, v8] st μ := g_istore (i := 4) (by decide +kernel) (Nat.le_of_ble_eq_true rfl) rfl
theorem i107_5 : m_G 107 5 [v0, .long l0, v2, v3, v4, v5, v6, v7, v8] st μ = m_G 107 6 [v0, .long l0, v2, v3, v4, v5, v6, v7, v8] (.long l0 :: st) μ := g_lload_n (i := 1) (by decide +kernel) rfl
theorem i107_6 : m_G 107 6 [v0, v1, v2, v3, v4, v5, v6, v7, v8] (.long l0 :: st) μ = m_G 107 8 [v0, v1, v2, v3, v4, .long l0, m_d, v7, v8] st μ := g_lstore (i := 5) (by decide +kernel) ⟨Nat.le_of_ble_eq_true rfl, by decide⟩ rfl
theorem i107_8 : m_G 107 8 L st μ = m_G 107 9 L (.int 0 :: st) μ := g_iconst (n := 0) (by decide +kernel) (by decide)
theorem i107_9 : m_G 107 9 [v0, v1, v2, v3, v4, v5, v6, v7, v8] (.int x0 :: st) μ = m_G 107 11 [v0, v1, v2, v3, v4, v5, v6, .int x0, v8] st μ := g_istore (i := 7) (by decide +kernel) (Nat.le_of_ble_eq_true rfl) rfl
theorem i107_11 : m_G 107 11 [v0, v1, v2, v3, v4, v5, v6, .int x0, v8] st μ = m_G 107 13 [v0, v1, v2, v3, v4, v5, v6, .int x0, v8] (.int x0 :: st) μ := g_iload (i := 7) (by decide +kernel) rfl
theorem i107_13 : m_G 107 13 L st μ = m_G 107 15 L (.int 8 :: st) μ := g_bipush (n := 8) (by decide +kernel) (by decide)
theorem i107_15 : m_G 107 15 L (.int x1 :: .int x0 :: st) μ = if x0 < x1 then m_G 107 18 L st μ else m_G 107 83 L st μ := g_cmpge (off := 68) (by decide +kernel) (by decide)
theorem i107_18 : m_G 107 18 [v0, v1, v2, v3, v4, .long l0, v6, v7, v8] st μ = m_G 107 20 [v0, v1, v2, v3, v4, .long l0, v6, v7, v8] (.long l0 :: st) μ := g_lload (i := 5) (by decide +kernel) rfl
theorem i107_20 : m_G 107 20 L st μ = m_G 107 23 L (.long (255) :: st) μ := g_ldc2_w (i := 110) (by decide +kernel) (by decide +kernel)
theorem i107_23 : m_G 107 23 L (.long l1 :: .long l0 :: st) μ = m_G 107 24 L (.long (l0 &&& l1) :: st) μ := g_land (by decide +kernel)
theorem i107_24 : m_G 107 24 L (.long l0 :: st) μ = m_G 107 25 L (.int l0.toInt32 :: st) μ := g_l2i (by decide +kernel)
theorem i107_25 : m_G 107 25 [v0, v1, v2, v3, v4, v5, v6, v7, v8] (.int x0 :: st) μ = m_G 107 27 [v0, v1, v2, v3, v4, v5, v6, v7, .int x0] st μ := g_istore (i := 8) (by decide +kernel) (Nat.le_of_ble_eq_true rfl) rfl
theorem i107_27 : m_G 107 27 [v0, v1, v2, v3, v4, .long l0, v6, v7, v8] st μ = m_G 107 29 [v0, v1, v2, v3, v4, .long l0, v6, v7, v8] (.long l0 :: st) μ := g_lload (i := 5) (by decide +kernel) rfl
theorem i107_29 : m_G 107 29 L st μ = m_G 107 31 L (.int 8 :: st) μ := g_bipush (n := 8) (by decide +kernel) (by decide)
theorem i107_31 : m_G 107 31 L (.int x0 :: .long l0 :: st) μ = m_G 107 32 L (.long (l0.toUInt64 >>> (x0.toInt64.toUInt64 &&& Int64.toUInt64 63)).toInt64 :: st) μ := g_lushr (by decide +kernel)
theorem i107_32 : m_G 107 32 [v0, v1, v2, v3, v4, v5, v6, v7, v8] (.long l0 :: st) μ = m_G 107 34 [v0, v1, v2, v3, v4, .long l0, m_d, v7, v8] st μ := g_lstore (i := 5) (by decide +kernel) ⟨Nat.le_of_ble_eq_true rfl, by decide⟩ rfl
theorem i107_34 : m_G 107 34 [v0, v1, v2, v3, .int x0, v5, v6, v7, v8] st μ = m_G 107 36 [v0, v1, v2, v3, .int x0, v5, v6, v7, v8] (.int x0 :: st) μ := g_iload (i := 4) (by decide +kernel) rfl
theorem i107_36 : m_G 107 36 L (.int x0 :: st) μ = if x0 = 0 then m_G 107 61 L st μ else m_G 107 39 L st μ := g_ifeq (off := 25) (by decide +kernel) (by decide)
theorem i107_39 : m_G 107 39 [v0, v1, v2, v3, v4, v5, v6, v7, .int x0] st μ = m_G 107 41 [v0, v1, v2, v3, v4, v5, v6, v7, .int x0] (.int x0 :: st) μ := g_iload (i := 8) (by decide +kernel) rfl
theorem i107_41 : m_G 107 41 L st μ = m_G 107 43 L (.int 126 :: st) μ := g_bipush (n := 126) (by decide +kernel) (by decide)
theorem i107_43 : m_G 107 43 L (.int x1 :: .int x0 :: st) μ = if x1 < x0 then m_G 107 61 L st μ else m_G 107 46 L st μ := g_cmpgt (off := 18) (by decide +kernel) (by decide)
theorem i107_46 : m_G 107 46 [v0, v1, v2, v3, v4, v5, v6, v7, .int x0] st μ = m_G 107 48 [v0, v1, v2, v3, v4, v5, v6, v7, .int x0] (.int x0 :: st) μ := g_iload (i := 8) (by decide +kernel) rfl
theorem i107_48 : m_G 107 48 L (.int x0 :: st) μ = if x0 = 0 then m_G 107 57 L st μ else m_G 107 51 L st μ := g_ifeq (off := 9) (by decide +kernel) (by decide)
theorem i107_51 : m_G 107 51 [v0, v1, v2, .int x0, v4, v5, v6, v7, v8] st μ = m_G 107 52 [v0, v1, v2, .int x0, v4, v5, v6, v7, v8] (.int x0 :: st) μ := g_iload_n (i := 3) (by decide +kernel) rfl
theorem i107_52 : m_G 107 52 [v0, v1, v2, v3, v4, v5, v6, .int x0, v8] st μ = m_G 107 54 [v0, v1, v2, v3, v4, v5, v6, .int x0, v8] (.int x0 :: st) μ := g_iload (i := 7) (by decide +kernel) rfl
theorem i107_54 : m_G 107 54 L (.int x1 :: .int x0 :: st) μ = if x0 = x1 then m_G 107 57 L st μ else m_G 107 61 L st μ := g_cmpne (off := 7) (by decide +kernel) (by decide)
theorem i107_57 : m_G 107 57 L st μ = m_G 107 58 L (.int 1 :: st) μ := g_iconst (n := 1) (by decide +kernel) (by decide)
theorem i107_58 : m_G 107 58 L st μ = m_G 107 62 L st μ := g_goto (off := 4) (by decide +kernel) (by decide)
theorem i107_61 : m_G 107 61 L st μ = m_G 107 62 L (.int 0 :: st) μ := g_iconst (n := 0) (by decide +kernel) (by decide)
theorem i107_62 : m_G 107 62 [v0, v1, v2, v3, v4, v5, v6, v7, v8] (.int x0 :: st) μ = m_G 107 64 [v0, v1, v2, v3, .int x0, v5, v6, v7, v8] st μ := g_istore (i := 4) (by decide +kernel) (Nat.le_of_ble_eq_true rfl) rfl
theorem i107_64 : m_G 107 64 [v0, v1, v2, .int x0, v4, v5, v6, v7, v8] st μ = m_G 107 65 [v0, v1, v2, .int x0, v4, v5, v6, v7, v8] (.int x0 :: st) μ := g_iload_n (i := 3) (by decide +kernel) rfl
theorem i107_65 : m_G 107 65 [v0, v1, v2, v3, v4, v5, v6, v7, .int x0] st μ = m_G 107 67 [v0, v1, v2, v3, v4, v5, v6, v7, .int x0] (.int x0 :: st) μ := g_iload (i := 8) (by decide +kernel) rfl
theorem i107_67 : m_G 107 67 L (.int x0 :: st) μ = if x0 ≤ 0 then m_G 107 74 L st μ else m_G 107 70 L st μ := g_ifle (off := 7) (by decide +kernel) (by decide)
theorem i107_70 : m_G 107 70 L st μ = m_G 107 71 L (.int 1 :: st) μ := g_iconst (n := 1) (by decide +kernel) (by decide)
theorem i107_71 : m_G 107 71 L st μ = m_G 107 75 L st μ := g_goto (off := 4) (by decide +kernel) (by decide)
theorem i107_74 : m_G 107 74 L st μ = m_G 107 75 L (.int 0 :: st) μ := g_iconst (n := 0) (by decide +kernel) (by decide)
theorem i107_75 : m_G 107 75 L (.int x1 :: .int x0 :: st) μ = m_G 107 76 L (.int (x0 + x1) :: st) μ := g_iadd (by decide +kernel)
theorem i107_76 : m_G 107 76 [v0, v1, v2, v3, v4, v5, v6, v7, v8] (.int x0 :: st) μ = m_G 107 77 [v0, v1, v2, .int x0, v4, v5, v6, v7, v8] st μ := g_istore_n (i := 3) (by decide +kernel) (Nat.le_of_ble_eq_true rfl) rfl
theorem i107_77 : m_G 107 77 [v0, v1, v2, v3, v4, v5, v6, .int x0, v8] st μ = m_G 107 80 [v0, v1, v2, v3, v4, v5, v6, .int (x0 + 1), v8] st μ := g_iinc (i := 7) (n := 1) (by decide +kernel) rfl (by decide) rfl
theorem i107_80 : m_G 107 80 L st μ = m_G 107 11 L st μ := g_goto (off := -69) (by decide +kernel) (by decide)
theorem i107_83 : m_G 107 83 [v0, v1, v2, v3, .int x0, v5, v6, v7, v8] st μ = m_G 107 85 [v0, v1, v2, v3, .int x0, v5, v6, v7, v8] (.int x0 :: st) μ := g_iload (i := 4) (by decide +kernel) rfl
theorem i107_85 : m_G 107 85 L (.int x0 :: st) μ = if x0 = 0 then m_G 107 88 L st μ else m_G 107 91 L st μ := g_ifne (off := 6) (by decide +kernel) (by decide)
theorem i107_88 : m_G 107 88 L st μ = m_G 107 90 L (.int (-102) :: st) μ := g_bipush (n := -102) (by decide +kernel) (by decide)
theorem i107_90 : m_G 107 90 L [.int x0] μ = some (some (.int x0), μ) := g_ireti (by decide +kernel) (by decide)
theorem i107_91 : m_G 107 91 [.ref a0, v1, v2, v3, v4, v5, v6, v7, v8] st μ = m_G 107 92 [.ref a0, v1, v2, v3, v4, v5, v6, v7, v8] (.ref a0 :: st) μ := g_aload_n (i := 0) (by decide +kernel) rfl
theorem i107_92 : m_G 107 92 L (.ref a0 :: st) μ = b_v (m_gf μ a0 9 8) 107 95 L st μ := g_getf (i := 112) (by decide +kernel) (by decide +kernel)
theorem i107_95 : m_G 107 95 [v0, v1, v2, .int x0, v4, v5, v6, v7, v8] st μ = m_G 107 96 [v0, v1, v2, .int x0, v4, v5, v6, v7, v8] (.int x0 :: st) μ := g_iload_n (i := 3) (by decide +kernel) rfl
theorem i107_96 : m_G 107 96 L (.int x1 :: .int x0 :: st) μ = m_G 107 97 L (.int (x0 + x1) :: st) μ := g_iadd (by decide +kernel)
theorem i107_97 : m_G 107 97 L st μ = m_G 107 99 L (.int 90 :: st) μ := g_bipush (n := 90) (by decide +kernel) (by decide)
theorem i107_99 : m_G 107 99 L (.int x1 :: .int x0 :: st) μ = if x1 < x0 then m_G 107 102 L st μ else m_G 107 105 L st μ := g_cmple (off := 6) (by decide +kernel) (by decide)
theorem i107_102 : m_G 107 102 L st μ = m_G 107 104 L (.int (-104) :: st) μ := g_bipush (n := -104) (by decide +kernel) (by decide)
theorem i107_104 : m_G 107 104 L [.int x0] μ = some (some (.int x0), μ) := g_ireti (by decide +kernel) (by decide)
theorem i107_105 : m_G 107 105 L st μ = m_G 107 106 L (.int 0 :: st) μ := g_iconst (n := 0) (by decide +kernel) (by decide)
theorem i107_106 : m_G 107 106 [v0, v1, v2, v3, v4, v5, v6, v7, v8] (.int x0 :: st) μ = m_G 107 108 [v0, v1, v2, v3, v4, v5, v6, .int x0, v8] st μ := g_istore (i := 7) (by decide +kernel) (Nat.le_of_ble_eq_true rfl) rfl
theorem i107_108 : m_G 107 108 [v0, v1, v2, v3, v4, v5, v6, .int x0, v8] st μ = m_G 107 110 [v0, v1, v2, v3, v4, v5, v6, .int x0, v8] (.int x0 :: st) μ := g_iload (i := 7) (by decide +kernel) rfl
theorem i107_110 : m_G 107 110 [v0, v1, v2, .int x0, v4, v5, v6, v7, v8] st μ = m_G 107 111 [v0, v1, v2, .int x0, v4, v5, v6, v7, v8] (.int x0 :: st) μ := g_iload_n (i := 3) (by decide +kernel) rfl
theorem i107_111 : m_G 107 111 L (.int x1 :: .int x0 :: st) μ = if x0 < x1 then m_G 107 114 L st μ else m_G 107 151 L st μ := g_cmpge (off := 40) (by decide +kernel) (by decide)
theorem i107_114 : m_G 107 114 [.ref a0, v1, v2, v3, v4, v5, v6, v7, v8] st μ = m_G 107 115 [.ref a0, v1, v2, v3, v4, v5, v6, v7, v8] (.ref a0 :: st) μ := g_aload_n (i := 0) (by decide +kernel) rfl
theorem i107_115 : m_G 107 115 L (.ref a0 :: st) μ = b_v (m_gf μ a0 9 7) 107 118 L st μ := g_getf (i := 29) (by decide +kernel) (by decide +kernel)
theorem i107_118 : m_G 107 118 [.ref a0, v1, v2, v3, v4, v5, v6, v7, v8] st μ = m_G 107 119 [.ref a0, v1, v2, v3, v4, v5, v6, v7, v8] (.ref a0 :: st) μ := g_aload_n (i := 0) (by decide +kernel) rfl
theorem i107_119 : m_G 107 119 L (.ref a0 :: st) μ = b_v (m_gf μ a0 9 8) 107 122 L st μ := g_getf (i := 112) (by decide +kernel) (by decide +kernel)
theorem i107_122 : m_G 107 122 [v0, .long l0, v2, v3, v4, v5, v6, v7, v8] st μ = m_G 107 123 [v0, .long l0, v2, v3, v4, v5, v6, v7, v8] (.long l0 :: st) μ := g_lload_n (i := 1) (by decide +kernel) rfl
theorem i107_123 : m_G 107 123 L st μ = m_G 107 125 L (.int 8 :: st) μ := g_bipush (n := 8) (by decide +kernel) (by decide)
theorem i107_125 : m_G 107 125 [v0, v1, v2, v3, v4, v5, v6, .int x0, v8] st μ = m_G 107 127 [v0, v1, v2, v3, v4, v5, v6, .int x0, v8] (.int x0 :: st) μ := g_iload (i := 7) (by decide +kernel) rfl
theorem i107_127 : m_G 107 127 L (.int x1 :: .int x0 :: st) μ = m_G 107 128 L (.int (x0 * x1) :: st) μ := g_imul (by decide +kernel)
theorem i107_128 : m_G 107 128 L (.int x0 :: .long l0 :: st) μ = m_G 107 129 L (.long (l0.toUInt64 >>> (x0.toInt64.toUInt64 &&& Int64.toUInt64 63)).toInt64 :: st) μ := g_lushr (by decide +kernel)
theorem i107_129 : m_G 107 129 L st μ = m_G 107 132 L (.long (255) :: st) μ := g_ldc2_w (i := 110) (by decide +kernel) (by decide +kernel)
theorem i107_132 : m_G 107 132 L (.long l1 :: .long l0 :: st) μ = m_G 107 133 L (.long (l0 &&& l1) :: st) μ := g_land (by decide +kernel)
theorem i107_133 : m_G 107 133 L (.long l0 :: st) μ = m_G 107 134 L (.int l0.toInt32 :: st) μ := g_l2i (by decide +kernel)
theorem i107_134 : m_G 107 134 L (.int x1 :: .int x0 :: .ref a0 :: st) μ = b_m (m_pa μ a0 x0 x1) 107 135 L st := g_iast (by decide +kernel)
theorem i107_135 : m_G 107 135 [.ref a0, v1, v2, v3, v4, v5, v6, v7, v8] st μ = m_G 107 136 [.ref a0, v1, v2, v3, v4, v5, v6, v7, v8] (.ref a0 :: st) μ := g_aload_n (i := 0) (by decide +kernel) rfl
theorem i107_136 : m_G 107 136 L (.ref a0 :: st) μ = m_G 107 137 L (.ref a0 :: .ref a0 :: st) μ := g_dupr (by decide +kernel)
theorem i107_136I : m_G 107 136 L (.int x0 :: st) μ = m_G 107 137 L (.int x0 :: .int x0 :: st) μ := g_dupi (by decide +kernel)
theorem i107_137 : m_G 107 137 L (.ref a0 :: st) μ = b_v (m_gf μ a0 9 8) 107 140 L st μ := g_getf (i := 112) (by decide +kernel) (by decide +kernel)
theorem i107_140 : m_G 107 140 L st μ = m_G 107 141 L (.int 1 :: st) μ := g_iconst (n := 1) (by decide +kernel) (by decide)
theorem i107_141 : m_G 107 141 L (.int x1 :: .int x0 :: st) μ = m_G 107 142 L (.int (x0 + x1) :: st) μ := g_iadd (by decide +kernel)
theorem i107_142 : m_G 107 142 L (w0 :: .ref a0 :: st) μ = b_m (m_pf μ a0 9 8 .int w0) 107 145 L st := g_putf (i := 112) (by decide +kernel) (by decide +kernel) (Or.inl (by decide)) (by decide)
theorem i107_145 : m_G 107 145 [v0, v1, v2, v3, v4, v5, v6, .int x0, v8] st μ = m_G 107 148 [v0, v1, v2, v3, v4, v5, v6, .int (x0 + 1), v8] st μ := g_iinc (i := 7) (n := 1) (by decide +kernel) rfl (by decide) rfl
theorem i107_148 : m_G 107 148 L st μ = m_G 107 108 L st μ := g_goto (off := -40) (by decide +kernel) (by decide)
theorem i107_151 : m_G 107 151 [.ref a0, v1, v2, v3, v4, v5, v6, v7, v8] st μ = m_G 107 152 [.ref a0, v1, v2, v3, v4, v5, v6, v7, v8] (.ref a0 :: st) μ := g_aload_n (i := 0) (by decide +kernel) rfl
theorem i107_152 : m_G 107 152 L (.ref a0 :: st) μ = b_v (m_gf μ a0 9 8) 107 155 L st μ := g_getf (i := 112) (by decide +kernel) (by decide +kernel)
theorem i107_155 : m_G 107 155 L [.int x0] μ = some (some (.int x0), μ) := g_ireti (by decide +kernel) (by decide)
theorem D107 : m_D 107 [.ref a0, .long l0] μ = m_G 107 0 [.ref a0, .long l0, m_d, m_d, m_d, m_d, m_d, m_d, m_d] [] μ := d_def (by decide) rfl
theorem i108_0 : m_G 108 0 [.ref a0, v1] st μ = m_G 108 1 [.ref a0, v1] (.ref a0 :: st) μ := g_aload_n (i := 0) (by decide +kernel) rfl
theorem i108_1 : m_G 108 1 L (.ref a0 :: st) μ = b_v (m_gf μ a0 9 8) 108 4 L st μ := g_getf (i := 112) (by decide +kernel) (by decide +kernel)
theorem i108_4 : m_G 108 4 [v0, v1] (.int x0 :: st) μ = m_G 108 5 [v0, .int x0] st μ := g_istore_n (i := 1) (by decide +kernel) (Nat.le_of_ble_eq_true rfl) rfl
theorem i108_5 : m_G 108 5 [.ref a0, v1] st μ = m_G 108 6 [.ref a0, v1] (.ref a0 :: st) μ := g_aload_n (i := 0) (by decide +kernel) rfl
theorem i108_6 : m_G 108 6 L st μ = m_G 108 7 L (.int 0 :: st) μ := g_iconst (n := 0) (by decide +kernel) (by decide)
theorem i108_7 : m_G 108 7 L (w0 :: .ref a0 :: st) μ = b_m (m_pf μ a0 9 8 .int w0) 108 10 L st := g_putf (i := 112) (by decide +kernel) (by decide +kernel) (Or.inl (by decide)) (by decide)
theorem i108_10 : m_G 108 10 [v0, .int x0] st μ = m_G 108 11 [v0, .int x0] (.int x0 :: st) μ := g_iload_n (i := 1) (by decide +kernel) rfl
theorem i108_11 : m_G 108 11 L [.int x0] μ = some (some (.int x0), μ) := g_ireti (by decide +kernel) (by decide)
theorem D108 : m_D 108 [.ref a0] μ = m_G 108 0 [.ref a0, m_d] [] μ := d_def (by decide) rfl
theorem i109_0 : m_G 109 0 [v0, .int x0] st μ = m_G 109 1 [v0, .int x0] (.int x0 :: st) μ := g_iload_n (i := 1) (by decide +kernel) rfl
theorem i109_1 : m_G 109 1 L (.int x0 :: st) μ = m_G 109 2 L (.long x0.toInt64 :: st) μ := g_i2l (by decide +kernel)
theorem i109_2 : m_G 109 2 L st μ = m_G 109 5 L (.long (97) :: st) μ := g_ldc2_w (i := 115) (by decide +kernel) (by decide +kernel)
theorem i109_5 : m_G 109 5 L st μ = m_G 109 8 L (.long (101) :: st) μ := g_ldc2_w (i := 117) (by decide +kernel) (by decide +kernel)
theorem i109_8 : m_G 109 8 L (.long l2 :: .long l1 :: .long l0 :: []) μ = b_c (m_D 102 [.long l0, .long l1, .long l2] μ) 109 11 L [] := g_stat (i := 102) (n := 3) (by decide +kernel) (by decide +kernel) (by decide) (x_call_ok (ws := [2, 2, 2]) (Nat.le_of_ble_eq_true rfl) rfl (by decide +kernel) rfl (by decide +kernel) rfl rfl)
theorem i109_11 : m_G 109 11 L (.int x0 :: st) μ = if x0 = 0 then m_G 109 23 L st μ else m_G 109 14 L st μ := g_ifeq (off := 12) (by decide +kernel) (by decide)
theorem i109_14 : m_G 109 14 [.ref a0, v1] st μ = m_G 109 15 [.ref a0, v1] (.ref a0 :: st) μ := g_aload_n (i := 0) (by decide +kernel) rfl
theorem i109_15 : m_G 109 15 L (.ref a0 :: st) μ = b_v (m_gf μ a0 9 10) 109 18 L st μ := g_getf (i := 95) (by decide +kernel) (by decide +kernel)
theorem i109_18 : m_G 109 18 L st μ = m_G 109 20 L (.int 24 :: st) μ := g_bipush (n := 24) (by decide +kernel) (by decide)
theorem i109_20 : m_G 109 20 L (.int x1 :: .int x0 :: st) μ = if x0 = x1 then m_G 109 23 L st μ else m_G 109 25 L st μ := g_cmpne (off := 5) (by decide +kernel) (by decide)
theorem i109_23 : m_G 109 23 L st μ = m_G 109 24 L (.int 0 :: st) μ := g_iconst (n := 0) (by decide +kernel) (by decide)
theorem i109_24 (h : x0 &&& 1 = x0) : m_G 109 24 L [.int x0] μ = some (some (.int x0), μ) := g_iretz (by decide +kernel) (by decide) h
theorem i109_25 : m_G 109 25 [.ref a0, v1] st μ = m_G 109 26 [.ref a0, v1] (.ref a0 :: st) μ := g_aload_n (i := 0) (by decide +kernel) rfl
theorem i109_26 : m_G 109 26 L (.ref a0 :: st) μ = b_v (m_gf μ a0 9 11) 109 29 L st μ := g_getf (i := 32) (by decide +kernel) (by decide +kernel)
theorem i109_29 : m_G 109 29 [.ref a0, v1] st μ = m_G 109 30 [.ref a0, v1] (.ref a0 :: st) μ := g_aload_n (i := 0) (by decide +kernel) rfl
theorem i109_30 : m_G 109 30 L (.ref a0 :: st) μ = b_v (m_gf μ a0 9 10) 109 33 L st μ := g_getf (i := 95) (by decide +kernel) (by decide +kernel)
theorem i109_33 : m_G 109 33 [v0, .int x0] st μ = m_G 109 34 [v0, .int x0] (.int x0 :: st) μ := g_iload_n (i := 1) (by decide +kernel) rfl
theorem i109_34 : m_G 109 34 L st μ = m_G 109 36 L (.int 97 :: st) μ := g_bipush (n := 97) (by decide +kernel) (by decide)
theorem i109_36 : m_G 109 36 L (.int x1 :: .int x0 :: st) μ = m_G 109 37 L (.int (x0 - x1) :: st) μ := g_isub (by decide +kernel)
theorem i109_37 : m_G 109 37 L (.int x1 :: .int x0 :: .ref a0 :: st) μ = b_m (m_pa μ a0 x0 x1) 109 38 L st := g_iast (by decide +kernel)
theorem i109_38 : m_G 109 38 [.ref a0, v1] st μ = m_G 109 39 [.ref a0, v1] (.ref a0 :: st) μ := g_aload_n (i := 0) (by decide +kernel) rfl
theorem i109_39 : m_G 109 39 L (.ref a0 :: st) μ = b_v (m_gf μ a0 9 12) 109 42 L st μ := g_getf (i := 35) (by decide +kernel) (by decide +kernel)
theorem i109_42 : m_G 109 42 [.ref a0, v1] st μ = m_G 109 43 [.ref a0, v1] (.ref a0 :: st) μ := g_aload_n (i := 0) (by decide +kernel) rfl
theorem i109_43 : m_G 109 43 L (.ref a0 :: st) μ = b_v (m_gf μ a0 9 10) 109 46 L st μ := g_getf (i := 95) (by decide +kernel) (by decide +kernel)
theorem i109_46 : m_G 109 46 L st μ = m_G 109 47 L (.int (-1) :: st) μ := g_iconst (n := -1) (by decide +kernel) (by decide)
theorem i109_47 : m_G 109 47 L (.int x1 :: .int x0 :: .ref a0 :: st) μ = b_m (m_pa μ a0 x0 x1) 109 48 L st := g_iast (by decide +kernel)
theorem i109_48 : m_G 109 48 [.ref a0, v1] st μ = m_G 109 49 [.ref a0, v1] (.ref a0 :: st) μ := g_aload_n (i := 0) (by decide +kernel) rfl
theorem i109_49 : m_G 109 49 L (.ref a0 :: st) μ = b_v (m_gf μ a0 9 13) 109 52 L st μ := g_getf (i := 38) (by decide +kernel) (by decide +kernel)
theorem i109_52 : m_G 109 52 [.ref a0, v1] st μ = m_G 109 53 [.ref a0, v1] (.ref a0 :: st) μ := g_aload_n (i := 0) (by decide +kernel) rfl
theorem i109_53 : m_G 109 53 L (.ref a0 :: st) μ = b_v (m_gf μ a0 9 10) 109 56 L st μ := g_getf (i := 95) (by decide +kernel) (by decide +kernel)
theorem i109_56 : m_G 109 56 [.ref a0, v1] st μ = m_G 109 57 [.ref a0, v1] (.ref a0 :: st) μ := g_aload_n (i := 0) (by decide +kernel) rfl
theorem i109_57 : m_G 109 57 L (.ref a0 :: st) μ = b_v (m_gf μ a0 9 14) 109 60 L st μ := g_getf (i := 119) (by decide +kernel) (by decide +kernel)
theorem i109_60 : m_G 109 60 L (.int x1 :: .int x0 :: .ref a0 :: st) μ = b_m (m_pa μ a0 x0 x1) 109 61 L st := g_iast (by decide +kernel)
theorem i109_61 : m_G 109 61 [.ref a0, v1] st μ = m_G 109 62 [.ref a0, v1] (.ref a0 :: st) μ := g_aload_n (i := 0) (by decide +kernel) rfl
theorem i109_62 : m_G 109 62 L (.ref a0 :: st) μ = m_G 109 63 L (.ref a0 :: .ref a0 :: st) μ := g_dupr (by decide +kernel)
theorem i109_62I : m_G 109 62 L (.int x0 :: st) μ = m_G 109 63 L (.int x0 :: .int x0 :: st) μ := g_dupi (by decide +kernel)
theorem i109_63 : m_G 109 63 L (.ref a0 :: st) μ = b_v (m_gf μ a0 9 10) 109 66 L st μ := g_getf (i := 95) (by decide +kernel) (by decide +kernel)
theorem i109_66 : m_G 109 66 L st μ = m_G 109 67 L (.int 1 :: st) μ := g_iconst (n := 1) (by decide +kernel) (by decide)
theorem i109_67 : m_G 109 67 L (.int x1 :: .int x0 :: st) μ = m_G 109 68 L (.int (x0 + x1) :: st) μ := g_iadd (by decide +kernel)
theorem i109_68 : m_G 109 68 L (w0 :: .ref a0 :: st) μ = b_m (m_pf μ a0 9 10 .int w0) 109 71 L st := g_putf (i := 95) (by decide +kernel) (by decide +kernel) (Or.inl (by decide)) (by decide)
theorem i109_71 : m_G 109 71 [.ref a0, v1] st μ = m_G 109 72 [.ref a0, v1] (.ref a0 :: st) μ := g_aload_n (i := 0) (by decide +kernel) rfl
theorem i109_72 : m_G 109 72 L st μ = m_G 109 73 L (.int 1 :: st) μ := g_iconst (n := 1) (by decide +kernel) (by decide)
theorem i109_73 : m_G 109 73 L (w0 :: .ref a0 :: st) μ = b_m (m_pf μ a0 9 9 .int w0) 109 76 L st := g_putf (i := 122) (by decide +kernel) (by decide +kernel) (Or.inl (by decide)) (by decide)
theorem i109_76 : m_G 109 76 L st μ = m_G 109 77 L (.int 1 :: st) μ := g_iconst (n := 1) (by decide +kernel) (by decide)
theorem i109_77 (h : x0 &&& 1 = x0) : m_G 109 77 L [.int x0] μ = some (some (.int x0), μ) := g_iretz (by decide +kernel) (by decide) h
theorem D109 : m_D 109 [.ref a0, .int x0] μ = m_G 109 0 [.ref a0, .int x0] [] μ := d_def (by decide) rfl
theorem i110_0 : m_G 110 0 [.ref a0, v1, v2] st μ = m_G 110 1 [.ref a0, v1, v2] (.ref a0 :: st) μ := g_aload_n (i := 0) (by decide +kernel) rfl
theorem i110_1 : m_G 110 1 L (.ref a0 :: st) μ = b_v (m_gf μ a0 9 9) 110 4 L st μ := g_getf (i := 122) (by decide +kernel) (by decide +kernel)
theorem i110_4 : m_G 110 4 L (.int x0 :: st) μ = if x0 = 0 then m_G 110 7 L st μ else m_G 110 13 L st μ := g_ifne (off := 9) (by decide +kernel) (by decide)
theorem i110_7 : m_G 110 7 [.ref a0, v1, v2] st μ = m_G 110 8 [.ref a0, v1, v2] (.ref a0 :: st) μ := g_aload_n (i := 0) (by decide +kernel) rfl
theorem i110_8 : m_G 110 8 [v0, .int x0, v2] st μ = m_G 110 9 [v0, .int x0, v2] (.int x0 :: st) μ := g_iload_n (i := 1) (by decide +kernel) rfl
theorem i110_9 (ho : m_oc μ a0 = some 9) : m_G 110 9 L (.int x0 :: .ref a0 :: []) μ = b_c (m_D 109 [.ref a0, .int x0] μ) 110 12 L [] := g_virt (i := 125) (n := 1) (a := a0) (c := 9) (l := [(9, 109)]) (by decide +kernel) (by decide +kernel) rfl rfl (x_call_ok (ws := [1, 1]) (Nat.le_of_ble_eq_true rfl) rfl (by decide +kernel) rfl (by decide +kernel) rfl rfl) ho
theorem i110_12 (h : x0 &&& 1 = x0) : m_G 110 12 L [.int x0] μ = some (some (.int x0), μ) := g_iretz (by decide +kernel) (by decide) h
theorem i110_13 : m_G 110 13 [.ref a0, v1, v2] st μ = m_G 110 14 [.ref a0, v1, v2] (.ref a0 :: st) μ := g_aload_n (i := 0) (by decide +kernel) rfl
theorem i110_14 : m_G 110 14 L (.ref a0 :: st) μ = b_v (m_gf μ a0 9 9) 110 17 L st μ := g_getf (i := 122) (by decide +kernel) (by decide +kernel)
theorem i110_17 : m_G 110 17 L st μ = m_G 110 18 L (.int 3 :: st) μ := g_iconst (n := 3) (by decide +kernel) (by decide)
theorem i110_18 : m_G 110 18 L (.int x1 :: .int x0 :: st) μ = if x0 < x1 then m_G 110 21 L st μ else m_G 110 88 L st μ := g_cmpge (off := 70) (by decide +kernel) (by decide)
theorem i110_21 : m_G 110 21 [v0, .int x0, v2] st μ = m_G 110 22 [v0, .int x0, v2] (.int x0 :: st) μ := g_iload_n (i := 1) (by decide +kernel) rfl
theorem i110_22 : m_G 110 22 L (.int x0 :: st) μ = m_G 110 23 L (.long x0.toInt64 :: st) μ := g_i2l (by decide +kernel)
theorem i110_23 : m_G 110 23 L st μ = m_G 110 26 L (.long (48) :: st) μ := g_ldc2_w (i := 128) (by decide +kernel) (by decide +kernel)
theorem i110_26 : m_G 110 26 L st μ = m_G 110 29 L (.long (57) :: st) μ := g_ldc2_w (i := 130) (by decide +kernel) (by decide +kernel)
theorem i110_29 : m_G 110 29 L (.long l2 :: .long l1 :: .long l0 :: []) μ = b_c (m_D 102 [.long l0, .long l1, .long l2] μ) 110 32 L [] := g_stat (i := 102) (n := 3) (by decide +kernel) (by decide +kernel) (by decide) (x_call_ok (ws := [2, 2, 2]) (Nat.le_of_ble_eq_true rfl) rfl (by decide +kernel) rfl (by decide +kernel) rfl rfl)
theorem i110_32 : m_G 110 32 L (.int x0 :: st) μ = if x0 = 0 then m_G 110 88 L st μ else m_G 110 35 L st μ := g_ifeq (off := 56) (by decide +kernel) (by decide)
theorem i110_35 : m_G 110 35 [.ref a0, v1, v2] st μ = m_G 110 36 [.ref a0, v1, v2] (.ref a0 :: st) μ := g_aload_n (i := 0) (by decide +kernel) rfl
theorem i110_36 : m_G 110 36 L (.ref a0 :: st) μ = b_v (m_gf μ a0 9 12) 110 39 L st μ := g_getf (i := 35) (by decide +kernel) (by decide +kernel)
theorem i110_39 : m_G 110 39 [.ref a0, v1, v2] st μ = m_G 110 40 [.ref a0, v1, v2] (.ref a0 :: st) μ := g_aload_n (i := 0) (by decide +kernel) rfl
theorem i110_40 : m_G 110 40 L (.ref a0 :: st) μ = b_v (m_gf μ a0 9 10) 110 43 L st μ := g_getf (i := 95) (by decide +kernel) (by decide +kernel)
theorem i110_43 : m_G 110 43 L st μ = m_G 110 44 L (.int 1 :: st) μ := g_iconst (n := 1) (by decide +kernel) (by decide)
theorem i110_44 : m_G 110 44 L (.int x1 :: .int x0 :: st) μ = m_G 110 45 L (.int (x0 - x1) :: st) μ := g_isub (by decide +kernel)
theorem i110_45 : m_G 110 45 L (.int x0 :: .ref a0 :: st) μ = b_i (m_ga μ a0 x0) 110 46 L st μ := g_iald (by decide +kernel)
theorem i110_46 : m_G 110 46 [v0, v1, v2] (.int x0 :: st) μ = m_G 110 47 [v0, v1, .int x0] st μ := g_istore_n (i := 2) (by decide +kernel) (Nat.le_of_ble_eq_true rfl) rfl
theorem i110_47 : m_G 110 47 [.ref a0, v1, v2] st μ = m_G 110 48 [.ref a0, v1, v2] (.ref a0 :: st) μ := g_aload_n (i := 0) (by decide +kernel) rfl
theorem i110_48 : m_G 110 48 L (.ref a0 :: st) μ = b_v (m_gf μ a0 9 12) 110 51 L st μ := g_getf (i := 35) (by decide +kernel) (by decide +kernel)
theorem i110_51 : m_G 110 51 [.ref a0, v1, v2] st μ = m_G 110 52 [.ref a0, v1, v2] (.ref a0 :: st) μ := g_aload_n (i := 0) (by decide +kernel) rfl
theorem i110_52 : m_G 110 52 L (.ref a0 :: st) μ = b_v (m_gf μ a0 9 10) 110 55 L st μ := g_getf (i := 95) (by decide +kernel) (by decide +kernel)
theorem i110_55 : m_G 110 55 L st μ = m_G 110 56 L (.int 1 :: st) μ := g_iconst (n := 1) (by decide +kernel) (by decide)
theorem i110_56 : m_G 110 56 L (.int x1 :: .int x0 :: st) μ = m_G 110 57 L (.int (x0 - x1) :: st) μ := g_isub (by decide +kernel)
theorem i110_57 : m_G 110 57 [v0, v1, .int x0] st μ = m_G 110 58 [v0, v1, .int x0] (.int x0 :: st) μ := g_iload_n (i := 2) (by decide +kernel) rfl
theorem i110_58 : m_G 110 58 L st μ = m_G 110 59 L (.int (-1) :: st) μ := g_iconst (n := -1) (by decide +kernel) (by decide)
theorem i110_59 : m_G 110 59 L (.int x1 :: .int x0 :: st) μ = if x0 = x1 then m_G 110 62 L st μ else m_G 110 66 L st μ := g_cmpne (off := 7) (by decide +kernel) (by decide)
theorem i110_62 : m_G 110 62 L st μ = m_G 110 63 L (.int 0 :: st) μ := g_iconst (n := 0) (by decide +kernel) (by decide)
theorem i110_63 : m_G 110 63 L st μ = m_G 110 70 L st μ := g_goto (off := 7) (by decide +kernel) (by decide)
theorem i110_66 : m_G 110 66 L st μ = m_G 110 68 L (.int 10 :: st) μ := g_bipush (n := 10) (by decide +kernel) (by decide)
theorem i110_68 : m_G 110 68 [v0, v1, .int x0] st μ = m_G 110 69 [v0, v1, .int x0] (.int x0 :: st) μ := g_iload_n (i := 2) (by decide +kernel) rfl
theorem i110_69 : m_G 110 69 L (.int x1 :: .int x0 :: st) μ = m_G 110 70 L (.int (x0 * x1) :: st) μ := g_imul (by decide +kernel)
theorem i110_70 : m_G 110 70 [v0, .int x0, v2] st μ = m_G 110 71 [v0, .int x0, v2] (.int x0 :: st) μ := g_iload_n (i := 1) (by decide +kernel) rfl
theorem i110_71 : m_G 110 71 L (.int x1 :: .int x0 :: st) μ = m_G 110 72 L (.int (x0 + x1) :: st) μ := g_iadd (by decide +kernel)
theorem i110_72 : m_G 110 72 L st μ = m_G 110 74 L (.int 48 :: st) μ := g_bipush (n := 48) (by decide +kernel) (by decide)
theorem i110_74 : m_G 110 74 L (.int x1 :: .int x0 :: st) μ = m_G 110 75 L (.int (x0 - x1) :: st) μ := g_isub (by decide +kernel)
theorem i110_75 : m_G 110 75 L (.int x1 :: .int x0 :: .ref a0 :: st) μ = b_m (m_pa μ a0 x0 x1) 110 76 L st := g_iast (by decide +kernel)
theorem i110_76 : m_G 110 76 [.ref a0, v1, v2] st μ = m_G 110 77 [.ref a0, v1, v2] (.ref a0 :: st) μ := g_aload_n (i := 0) (by decide +kernel) rfl
theorem i110_77 : m_G 110 77 L (.ref a0 :: st) μ = m_G 110 78 L (.ref a0 :: .ref a0 :: st) μ := g_dupr (by decide +kernel)
theorem i110_77I : m_G 110 77 L (.int x0 :: st) μ = m_G 110 78 L (.int x0 :: .int x0 :: st) μ := g_dupi (by decide +kernel)
theorem i110_78 : m_G 110 78 L (.ref a0 :: st) μ = b_v (m_gf μ a0 9 9) 110 81 L st μ := g_getf (i := 122) (by decide +kernel) (by decide +kernel)
theorem i110_81 : m_G 110 81 L st μ = m_G 110 82 L (.int 1 :: st) μ := g_iconst (n := 1) (by decide +kernel) (by decide)
theorem i110_82 : m_G 110 82 L (.int x1 :: .int x0 :: st) μ = m_G 110 83 L (.int (x0 + x1) :: st) μ := g_iadd (by decide +kernel)
theorem i110_83 : m_G 110 83 L (w0 :: .ref a0 :: st) μ = b_m (m_pf μ a0 9 9 .int w0) 110 86 L st := g_putf (i := 122) (by decide +kernel) (by decide +kernel) (Or.inl (by decide)) (by decide)
theorem i110_86 : m_G 110 86 L st μ = m_G 110 87 L (.int 1 :: st) μ := g_iconst (n := 1) (by decide +kernel) (by decide)
theorem i110_87 (h : x0 &&& 1 = x0) : m_G 110 87 L [.int x0] μ = some (some (.int x0), μ) := g_iretz (by decide +kernel) (by decide) h
theorem i110_88 : m_G 110 88 [.ref a0, v1, v2] st μ = m_G 110 89 [.ref a0, v1, v2] (.ref a0 :: st) μ := g_aload_n (i := 0) (by decide +kernel) rfl
theorem i110_89 : m_G 110 89 L (.ref a0 :: st) μ = b_v (m_gf μ a0 9 9) 110 92 L st μ := g_getf (i := 122) (by decide +kernel) (by decide +kernel)
theorem i110_92 : m_G 110 92 L st μ = m_G 110 93 L (.int 4 :: st) μ := g_iconst (n := 4) (by decide +kernel) (by decide)
theorem i110_93 : m_G 110 93 L (.int x1 :: .int x0 :: st) μ = if x0 < x1 then m_G 110 96 L st μ else m_G 110 132 L st μ := g_cmpge (off := 39) (by decide +kernel) (by decide)
theorem i110_96 : m_G 110 96 [v0, .int x0, v2] st μ = m_G 110 97 [v0, .int x0, v2] (.int x0 :: st) μ := g_iload_n (i := 1) (by decide +kernel) rfl
theorem i110_97 : m_G 110 97 L st μ = m_G 110 99 L (.int 40 :: st) μ := g_bipush (n := 40) (by decide +kernel) (by decide)
theorem i110_99 : m_G 110 99 L (.int x1 :: .int x0 :: st) μ = if x0 = x1 then m_G 110 102 L st μ else m_G 110 132 L st μ := g_cmpne (off := 33) (by decide +kernel) (by decide)
theorem i110_102 : m_G 110 102 [.ref a0, v1, v2] st μ = m_G 110 103 [.ref a0, v1, v2] (.ref a0 :: st) μ := g_aload_n (i := 0) (by decide +kernel) rfl
theorem i110_103 : m_G 110 103 [.ref a0, v1, v2] st μ = m_G 110 104 [.ref a0, v1, v2] (.ref a0 :: st) μ := g_aload_n (i := 0) (by decide +kernel) rfl
theorem i110_104 : m_G 110 104 L (.ref a0 :: st) μ = b_v (m_gf μ a0 9 10) 110 107 L st μ := g_getf (i := 95) (by decide +kernel) (by decide +kernel)
theorem i110_107 : m_G 110 107 L st μ = m_G 110 108 L (.int 1 :: st) μ := g_iconst (n := 1) (by decide +kernel) (by decide)
theorem i110_108 : m_G 110 108 L (.int x1 :: .int x0 :: st) μ = m_G 110 109 L (.int (x0 - x1) :: st) μ := g_isub (by decide +kernel)
theorem i110_109 : m_G 110 109 L (w0 :: .ref a0 :: st) μ = b_m (m_pf μ a0 9 14 .int w0) 110 112 L st := g_putf (i := 119) (by decide +kernel) (by decide +kernel) (Or.inl (by decide)) (by decide)
theorem i110_112 : m_G 110 112 [.ref a0, v1, v2] st μ = m_G 110 113 [.ref a0, v1, v2] (.ref a0 :: st) μ := g_aload_n (i := 0) (by decide +kernel) rfl
theorem i110_113 : m_G 110 113 L st μ = m_G 110 114 L (.int 0 :: st) μ := g_iconst (n := 0) (by decide +kernel) (by decide)
theorem i110_114 : m_G 110 114 L (w0 :: .ref a0 :: st) μ = b_m (m_pf μ a0 9 9 .int w0) 110 117 L st := g_putf (i := 122) (by decide +kernel) (by decide +kernel) (Or.inl (by decide)) (by decide)
theorem i110_117 : m_G 110 117 [.ref a0, v1, v2] st μ = m_G 110 118 [.ref a0, v1, v2] (.ref a0 :: st) μ := g_aload_n (i := 0) (by decide +kernel) rfl
theorem i110_118 : m_G 110 118 L (.ref a0 :: st) μ = b_v (m_gf μ a0 9 10) 110 121 L st μ := g_getf (i := 95) (by decide +kernel) (by decide +kernel)
theorem i110_121 : m_G 110 121 L st μ = m_G 110 123 L (.int 24 :: st) μ := g_bipush (n := 24) (by decide +kernel) (by decide)
theorem i110_123 : m_G 110 123 L (.int x1 :: .int x0 :: st) μ = if x0 < x1 then m_G 110 126 L st μ else m_G 110 130 L st μ := g_cmpge (off := 7) (by decide +kernel) (by decide)
theorem i110_126 : m_G 110 126 L st μ = m_G 110 127 L (.int 1 :: st) μ := g_iconst (n := 1) (by decide +kernel) (by decide)
theorem i110_127 : m_G 110 127 L st μ = m_G 110 131 L st μ := g_goto (off := 4) (by decide +kernel) (by decide)
theorem i110_130 : m_G 110 130 L st μ = m_G 110 131 L (.int 0 :: st) μ := g_iconst (n := 0) (by decide +kernel) (by decide)
theorem i110_131 (h : x0 &&& 1 = x0) : m_G 110 131 L [.int x0] μ = some (some (.int x0), μ) := g_iretz (by decide +kernel) (by decide) h
theorem i110_132 : m_G 110 132 [.ref a0, v1, v2] st μ = m_G 110 133 [.ref a0, v1, v2] (.ref a0 :: st) μ := g_aload_n (i := 0) (by decide +kernel) rfl
theorem i110_133 : m_G 110 133 L (.ref a0 :: st) μ = b_v (m_gf μ a0 9 14) 110 136 L st μ := g_getf (i := 119) (by decide +kernel) (by decide +kernel)
theorem i110_136 : m_G 110 136 L st μ = m_G 110 137 L (.int (-1) :: st) μ := g_iconst (n := -1) (by decide +kernel) (by decide)
theorem i110_137 : m_G 110 137 L (.int x1 :: .int x0 :: st) μ = if x0 = x1 then m_G 110 140 L st μ else m_G 110 142 L st μ := g_cmpne (off := 5) (by decide +kernel) (by decide)
theorem i110_140 : m_G 110 140 L st μ = m_G 110 141 L (.int 0 :: st) μ := g_iconst (n := 0) (by decide +kernel) (by decide)
theorem i110_141 (h : x0 &&& 1 = x0) : m_G 110 141 L [.int x0] μ = some (some (.int x0), μ) := g_iretz (by decide +kernel) (by decide) h
theorem i110_142 : m_G 110 142 [v0, .int x0, v2] st μ = m_G 110 143 [v0, .int x0, v2] (.int x0 :: st) μ := g_iload_n (i := 1) (by decide +kernel) rfl
theorem i110_143 : m_G 110 143 L st μ = m_G 110 145 L (.int 41 :: st) μ := g_bipush (n := 41) (by decide +kernel) (by decide)
theorem i110_145 : m_G 110 145 L (.int x1 :: .int x0 :: st) μ = if x0 = x1 then m_G 110 148 L st μ else m_G 110 168 L st μ := g_cmpne (off := 23) (by decide +kernel) (by decide)
theorem i110_148 : m_G 110 148 [.ref a0, v1, v2] st μ = m_G 110 149 [.ref a0, v1, v2] (.ref a0 :: st) μ := g_aload_n (i := 0) (by decide +kernel) rfl
theorem i110_149 : m_G 110 149 [.ref a0, v1, v2] st μ = m_G 110 150 [.ref a0, v1, v2] (.ref a0 :: st) μ := g_aload_n (i := 0) (by decide +kernel) rfl
theorem i110_150 : m_G 110 150 L (.ref a0 :: st) μ = b_v (m_gf μ a0 9 13) 110 153 L st μ := g_getf (i := 38) (by decide +kernel) (by decide +kernel)
theorem i110_153 : m_G 110 153 [.ref a0, v1, v2] st μ = m_G 110 154 [.ref a0, v1, v2] (.ref a0 :: st) μ := g_aload_n (i := 0) (by decide +kernel) rfl
theorem i110_154 : m_G 110 154 L (.ref a0 :: st) μ = b_v (m_gf μ a0 9 14) 110 157 L st μ := g_getf (i := 119) (by decide +kernel) (by decide +kernel)
theorem i110_157 : m_G 110 157 L (.int x0 :: .ref a0 :: st) μ = b_i (m_ga μ a0 x0) 110 158 L st μ := g_iald (by decide +kernel)
theorem i110_158 : m_G 110 158 L (w0 :: .ref a0 :: st) μ = b_m (m_pf μ a0 9 14 .int w0) 110 161 L st := g_putf (i := 119) (by decide +kernel) (by decide +kernel) (Or.inl (by decide)) (by decide)
theorem i110_161 : m_G 110 161 [.ref a0, v1, v2] st μ = m_G 110 162 [.ref a0, v1, v2] (.ref a0 :: st) μ := g_aload_n (i := 0) (by decide +kernel) rfl
theorem i110_162 : m_G 110 162 L st μ = m_G 110 163 L (.int 4 :: st) μ := g_iconst (n := 4) (by decide +kernel) (by decide)
theorem i110_163 : m_G 110 163 L (w0 :: .ref a0 :: st) μ = b_m (m_pf μ a0 9 9 .int w0) 110 166 L st := g_putf (i := 122) (by decide +kernel) (by decide +kernel) (Or.inl (by decide)) (by decide)
theorem i110_166 : m_G 110 166 L st μ = m_G 110 167 L (.int 1 :: st) μ := g_iconst (n := 1) (by decide +kernel) (by decide)
theorem i110_167 (h : x0 &&& 1 = x0) : m_G 110 167 L [.int x0] μ = some (some (.int x0), μ) := g_iretz (by decide +kernel) (by decide) h
theorem i110_168 : m_G 110 168 [.ref a0, v1, v2] st μ = m_G 110 169 [.ref a0, v1, v2] (.ref a0 :: st) μ := g_aload_n (i := 0) (by decide +kernel) rfl
theorem i110_169 : m_G 110 169 [v0, .int x0, v2] st μ = m_G 110 170 [v0, .int x0, v2] (.int x0 :: st) μ := g_iload_n (i := 1) (by decide +kernel) rfl
theorem i110_170 (ho : m_oc μ a0 = some 9) : m_G 110 170 L (.int x0 :: .ref a0 :: []) μ = b_c (m_D 109 [.ref a0, .int x0] μ) 110 173 L [] := g_virt (i := 125) (n := 1) (a := a0) (c := 9) (l := [(9, 109)]) (by decide +kernel) (by decide +kernel) rfl rfl (x_call_ok (ws := [1, 1]) (Nat.le_of_ble_eq_true rfl) rfl (by decide +kernel) rfl (by decide +kernel) rfl rfl) ho
theorem i110_173 (h : x0 &&& 1 = x0) : m_G 110 173 L [.int x0] μ = some (some (.int x0), μ) := g_iretz (by decide +kernel) (by decide) h
theorem D110 : m_D 110 [.ref a0, .int x0] μ = m_G 110 0 [.ref a0, .int x0, m_d] [] μ := d_def (by decide) rfl
theorem i111_0 : m_G 111 0 [.ref a0, v1] st μ = m_G 111 1 [.ref a0, v1] (.ref a0 :: st) μ := g_aload_n (i := 0) (by decide +kernel) rfl
theorem i111_1 : m_G 111 1 L (.ref a0 :: st) μ = b_v (m_gf μ a0 9 15) 111 4 L st μ := g_getf (i := 41) (by decide +kernel) (by decide +kernel)
theorem i111_4 : m_G 111 4 [.ref a0, v1] st μ = m_G 111 5 [.ref a0, v1] (.ref a0 :: st) μ := g_aload_n (i := 0) (by decide +kernel) rfl
theorem i111_5 : m_G 111 5 L (.ref a0 :: st) μ = b_v (m_gf μ a0 9 16) 111 8 L st μ := g_getf (i := 132) (by decide +kernel) (by decide +kernel)
theorem i111_8 : m_G 111 8 [v0, .int x0] st μ = m_G 111 9 [v0, .int x0] (.int x0 :: st) μ := g_iload_n (i := 1) (by decide +kernel) rfl
theorem i111_9 : m_G 111 9 L (.int x1 :: .int x0 :: .ref a0 :: st) μ = b_m (m_pa μ a0 x0 x1) 111 10 L st := g_iast (by decide +kernel)
theorem i111_10 : m_G 111 10 [.ref a0, v1] st μ = m_G 111 11 [.ref a0, v1] (.ref a0 :: st) μ := g_aload_n (i := 0) (by decide +kernel) rfl
theorem i111_11 : m_G 111 11 L (.ref a0 :: st) μ = m_G 111 12 L (.ref a0 :: .ref a0 :: st) μ := g_dupr (by decide +kernel)
theorem i111_11I : m_G 111 11 L (.int x0 :: st) μ = m_G 111 12 L (.int x0 :: .int x0 :: st) μ := g_dupi (by decide +kernel)
theorem i111_12 : m_G 111 12 L (.ref a0 :: st) μ = b_v (m_gf μ a0 9 16) 111 15 L st μ := g_getf (i := 132) (by decide +kernel) (by decide +kernel)
theorem i111_15 : m_G 111 15 L st μ = m_G 111 16 L (.int 1 :: st) μ := g_iconst (n := 1) (by decide +kernel) (by decide)
theorem i111_16 : m_G 111 16 L (.int x1 :: .int x0 :: st) μ = m_G 111 17 L (.int (x0 + x1) :: st) μ := g_iadd (by decide +kernel)
theorem i111_17 : m_G 111 17 L (w0 :: .ref a0 :: st) μ = b_m (m_pf μ a0 9 16 .int w0) 111 20 L st := g_putf (i := 132) (by decide +kernel) (by decide +kernel) (Or.inl (by decide)) (by decide)
theorem i111_20 : m_G 111 20 [.ref a0, v1] st μ = m_G 111 21 [.ref a0, v1] (.ref a0 :: st) μ := g_aload_n (i := 0) (by decide +kernel) rfl
theorem i111_21 : m_G 111 21 L st μ = m_G 111 22 L (.int 2 :: st) μ := g_iconst (n := 2) (by decide +kernel) (by decide)
theorem i111_22 : m_G 111 22 L (w0 :: .ref a0 :: st) μ = b_m (m_pf μ a0 9 9 .int w0) 111 25 L st := g_putf (i := 122) (by decide +kernel) (by decide +kernel) (Or.inl (by decide)) (by decide)
theorem i111_25 : m_G 111 25 L [] μ = some (none, μ) := g_ret (by decide +kernel) (by decide)
theorem D111 : m_D 111 [.ref a0, .int x0] μ = m_G 111 0 [.ref a0, .int x0] [] μ := d_def (by decide) rfl
theorem i112_0 : m_G 112 0 [.ref a0, v1] st μ = m_G 112 1 [.ref a0, v1] (.ref a0 :: st) μ := g_aload_n (i := 0) (by decide +kernel) rfl
theorem i112_1 : m_G 112 1 L (.ref a0 :: st) μ = b_v (m_gf μ a0 9 9) 112 4 L st μ := g_getf (i := 122) (by decide +kernel) (by decide +kernel)
theorem i112_4 : m_G 112 4 L st μ = m_G 112 5 L (.int 2 :: st) μ := g_iconst (n := 2) (by decide +kernel) (by decide)
theorem i112_5 : m_G 112 5 L (.int x1 :: .int x0 :: st) μ = if x0 = x1 then m_G 112 8 L st μ else m_G 112 34 L st μ := g_cmpne (off := 29) (by decide +kernel) (by decide)
theorem i112_8 : m_G 112 8 [.ref a0, v1] st μ = m_G 112 9 [.ref a0, v1] (.ref a0 :: st) μ := g_aload_n (i := 0) (by decide +kernel) rfl
theorem i112_9 : m_G 112 9 L st μ = m_G 112 10 L (.int 0 :: st) μ := g_iconst (n := 0) (by decide +kernel) (by decide)
theorem i112_10 : m_G 112 10 L (w0 :: .ref a0 :: st) μ = b_m (m_pf μ a0 9 9 .int w0) 112 13 L st := g_putf (i := 122) (by decide +kernel) (by decide +kernel) (Or.inl (by decide)) (by decide)
theorem i112_13 : m_G 112 13 [v0, .int x0] st μ = m_G 112 14 [v0, .int x0] (.int x0 :: st) μ := g_iload_n (i := 1) (by decide +kernel) rfl
theorem i112_14 : m_G 112 14 L st μ = m_G 112 16 L (.int 47 :: st) μ := g_bipush (n := 47) (by decide +kernel) (by decide)
theorem i112_16 : m_G 112 16 L (.int x1 :: .int x0 :: st) μ = if x0 = x1 then m_G 112 19 L st μ else m_G 112 32 L st μ := g_cmpne (off := 16) (by decide +kernel) (by decide)
theorem i112_19 : m_G 112 19 [.ref a0, v1] st μ = m_G 112 20 [.ref a0, v1] (.ref a0 :: st) μ := g_aload_n (i := 0) (by decide +kernel) rfl
theorem i112_20 : m_G 112 20 L (.ref a0 :: st) μ = b_v (m_gf μ a0 9 16) 112 23 L st μ := g_getf (i := 132) (by decide +kernel) (by decide +kernel)
theorem i112_23 : m_G 112 23 L st μ = m_G 112 25 L (.int 6 :: st) μ := g_bipush (n := 6) (by decide +kernel) (by decide)
theorem i112_25 : m_G 112 25 L (.int x1 :: .int x0 :: st) μ = if x0 < x1 then m_G 112 28 L st μ else m_G 112 32 L st μ := g_cmpge (off := 7) (by decide +kernel) (by decide)
theorem i112_28 : m_G 112 28 L st μ = m_G 112 29 L (.int 1 :: st) μ := g_iconst (n := 1) (by decide +kernel) (by decide)
theorem i112_29 : m_G 112 29 L st μ = m_G 112 33 L st μ := g_goto (off := 4) (by decide +kernel) (by decide)
theorem i112_32 : m_G 112 32 L st μ = m_G 112 33 L (.int 0 :: st) μ := g_iconst (n := 0) (by decide +kernel) (by decide)
theorem i112_33 (h : x0 &&& 1 = x0) : m_G 112 33 L [.int x0] μ = some (some (.int x0), μ) := g_iretz (by decide +kernel) (by decide) h
theorem i112_34 : m_G 112 34 [v0, .int x0] st μ = m_G 112 35 [v0, .int x0] (.int x0 :: st) μ := g_iload_n (i := 1) (by decide +kernel) rfl
theorem i112_35 : m_G 112 35 L (.int x0 :: st) μ = m_G 112 36 L (.long x0.toInt64 :: st) μ := g_i2l (by decide +kernel)
theorem i112_36 : m_G 112 36 L st μ = m_G 112 39 L (.long (97) :: st) μ := g_ldc2_w (i := 115) (by decide +kernel) (by decide +kernel)
theorem i112_39 : m_G 112 39 L st μ = m_G 112 42 L (.long (101) :: st) μ := g_ldc2_w (i := 117) (by decide +kernel) (by decide +kernel)
theorem i112_42 : m_G 112 42 L (.long l2 :: .long l1 :: .long l0 :: []) μ = b_c (m_D 102 [.long l0, .long l1, .long l2] μ) 112 45 L [] := g_stat (i := 102) (n := 3) (by decide +kernel) (by decide +kernel) (by decide) (x_call_ok (ws := [2, 2, 2]) (Nat.le_of_ble_eq_true rfl) rfl (by decide +kernel) rfl (by decide +kernel) rfl rfl)
theorem i112_45 : m_G 112 45 L (.int x0 :: st) μ = if x0 = 0 then m_G 112 76 L st μ else m_G 112 48 L st μ := g_ifeq (off := 31) (by decide +kernel) (by decide)
theorem i112_48 : m_G 112 48 [.ref a0, v1] st μ = m_G 112 49 [.ref a0, v1] (.ref a0 :: st) μ := g_aload_n (i := 0) (by decide +kernel) rfl
theorem i112_49 : m_G 112 49 [.ref a0, v1] st μ = m_G 112 50 [.ref a0, v1] (.ref a0 :: st) μ := g_aload_n (i := 0) (by decide +kernel) rfl
theorem i112_50 : m_G 112 50 L (.ref a0 :: st) μ = b_v (m_gf μ a0 9 9) 112 53 L st μ := g_getf (i := 122) (by decide +kernel) (by decide +kernel)
theorem i112_53 : m_G 112 53 L st μ = m_G 112 54 L (.int 1 :: st) μ := g_iconst (n := 1) (by decide +kernel) (by decide)
theorem i112_54 : m_G 112 54 L (.int x1 :: .int x0 :: st) μ = if x0 = x1 then m_G 112 57 L st μ else m_G 112 67 L st μ := g_cmpne (off := 13) (by decide +kernel) (by decide)
theorem i112_57 : m_G 112 57 L st μ = m_G 112 59 L (.int 15 :: st) μ := g_bipush (n := 15) (by decide +kernel) (by decide)
theorem i112_59 : m_G 112 59 [v0, .int x0] st μ = m_G 112 60 [v0, .int x0] (.int x0 :: st) μ := g_iload_n (i := 1) (by decide +kernel) rfl
theorem i112_60 : m_G 112 60 L (.int x1 :: .int x0 :: st) μ = m_G 112 61 L (.int (x0 + x1) :: st) μ := g_iadd (by decide +kernel)
theorem i112_61 : m_G 112 61 L st μ = m_G 112 63 L (.int 97 :: st) μ := g_bipush (n := 97) (by decide +kernel) (by decide)
theorem i112_63 : m_G 112 63 L (.int x1 :: .int x0 :: st) μ = m_G 112 64 L (.int (x0 - x1) :: st) μ := g_isub (by decide +kernel)
theorem i112_64 : m_G 112 64 L st μ = m_G 112 71 L st μ := g_goto (off := 7) (by decide +kernel) (by decide)
theorem i112_67 : m_G 112 67 [v0, .int x0] st μ = m_G 112 68 [v0, .int x0] (.int x0 :: st) μ := g_iload_n (i := 1) (by decide +kernel) rfl
theorem i112_68 : m_G 112 68 L st μ = m_G 112 70 L (.int 97 :: st) μ := g_bipush (n := 97) (by decide +kernel) (by decide)
theorem i112_70 : m_G 112 70 L (.int x1 :: .int x0 :: st) μ = m_G 112 71 L (.int (x0 - x1) :: st) μ := g_isub (by decide +kernel)
theorem i112_71 (ho : m_oc μ a0 = some 9) : m_G 112 71 L (.int x0 :: .ref a0 :: []) μ = b_c (m_D 111 [.ref a0, .int x0] μ) 112 74 L [] := g_virt (i := 135) (n := 1) (a := a0) (c := 9) (l := [(9, 111)]) (by decide +kernel) (by decide +kernel) rfl rfl (x_call_ok (ws := [1, 1]) (Nat.le_of_ble_eq_true rfl) rfl (by decide +kernel) rfl (by decide +kernel) rfl rfl) ho
theorem i112_74 : m_G 112 74 L st μ = m_G 112 75 L (.int 1 :: st) μ := g_iconst (n := 1) (by decide +kernel) (by decide)
theorem i112_75 (h : x0 &&& 1 = x0) : m_G 112 75 L [.int x0] μ = some (some (.int x0), μ) := g_iretz (by decide +kernel) (by decide) h
theorem i112_76 : m_G 112 76 [.ref a0, v1] st μ = m_G 112 77 [.ref a0, v1] (.ref a0 :: st) μ := g_aload_n (i := 0) (by decide +kernel) rfl
theorem i112_77 : m_G 112 77 L (.ref a0 :: st) μ = b_v (m_gf μ a0 9 9) 112 80 L st μ := g_getf (i := 122) (by decide +kernel) (by decide +kernel)
theorem i112_80 : m_G 112 80 L st μ = m_G 112 81 L (.int 1 :: st) μ := g_iconst (n := 1) (by decide +kernel) (by decide)
theorem i112_81 : m_G 112 81 L (.int x1 :: .int x0 :: st) μ = if x0 = x1 then m_G 112 84 L st μ else m_G 112 86 L st μ := g_cmpne (off := 5) (by decide +kernel) (by decide)
theorem i112_84 : m_G 112 84 L st μ = m_G 112 85 L (.int 0 :: st) μ := g_iconst (n := 0) (by decide +kernel) (by decide)
theorem i112_85 (h : x0 &&& 1 = x0) : m_G 112 85 L [.int x0] μ = some (some (.int x0), μ) := g_iretz (by decide +kernel) (by decide) h
theorem i112_86 : m_G 112 86 [v0, .int x0] st μ = m_G 112 87 [v0, .int x0] (.int x0 :: st) μ := g_iload_n (i := 1) (by decide +kernel) rfl
theorem i112_87 : m_G 112 87 L st μ = m_G 112 89 L (.int 42 :: st) μ := g_bipush (n := 42) (by decide +kernel) (by decide)
theorem i112_89 : m_G 112 89 L (.int x1 :: .int x0 :: st) μ = if x0 = x1 then m_G 112 92 L st μ else m_G 112 99 L st μ := g_cmpne (off := 10) (by decide +kernel) (by decide)
theorem i112_92 : m_G 112 92 [.ref a0, v1] st μ = m_G 112 93 [.ref a0, v1] (.ref a0 :: st) μ := g_aload_n (i := 0) (by decide +kernel) rfl
theorem i112_93 : m_G 112 93 L st μ = m_G 112 94 L (.int 1 :: st) μ := g_iconst (n := 1) (by decide +kernel) (by decide)
theorem i112_94 : m_G 112 94 L (w0 :: .ref a0 :: st) μ = b_m (m_pf μ a0 9 9 .int w0) 112 97 L st := g_putf (i := 122) (by decide +kernel) (by decide +kernel) (Or.inl (by decide)) (by decide)
theorem i112_97 : m_G 112 97 L st μ = m_G 112 98 L (.int 1 :: st) μ := g_iconst (n := 1) (by decide +kernel) (by decide)
theorem i112_98 (h : x0 &&& 1 = x0) : m_G 112 98 L [.int x0] μ = some (some (.int x0), μ) := g_iretz (by decide +kernel) (by decide) h
theorem i112_99 : m_G 112 99 [v0, .int x0] st μ = m_G 112 100 [v0, .int x0] (.int x0 :: st) μ := g_iload_n (i := 1) (by decide +kernel) rfl
theorem i112_100 : m_G 112 100 L (.int x0 :: st) μ = m_G 112 101 L (.long x0.toInt64 :: st) μ := g_i2l (by decide +kernel)
theorem i112_101 : m_G 112 101 L st μ = m_G 112 104 L (.long (48) :: st) μ := g_ldc2_w (i := 128) (by decide +kernel) (by decide +kernel)
theorem i112_104 : m_G 112 104 L st μ = m_G 112 107 L (.long (57) :: st) μ := g_ldc2_w (i := 130) (by decide +kernel) (by decide +kernel)
theorem i112_107 : m_G 112 107 L (.long l2 :: .long l1 :: .long l0 :: []) μ = b_c (m_D 102 [.long l0, .long l1, .long l2] μ) 112 110 L [] := g_stat (i := 102) (n := 3) (by decide +kernel) (by decide +kernel) (by decide) (x_call_ok (ws := [2, 2, 2]) (Nat.le_of_ble_eq_true rfl) rfl (by decide +kernel) rfl (by decide +kernel) rfl rfl)
theorem i112_110 : m_G 112 110 L (.int x0 :: st) μ = if x0 = 0 then m_G 112 113 L st μ else m_G 112 121 L st μ := g_ifne (off := 11) (by decide +kernel) (by decide)
theorem i112_113 : m_G 112 113 [v0, .int x0] st μ = m_G 112 114 [v0, .int x0] (.int x0 :: st) μ := g_iload_n (i := 1) (by decide +kernel) rfl
theorem i112_114 : m_G 112 114 L st μ = m_G 112 116 L (.int 62 :: st) μ := g_bipush (n := 62) (by decide +kernel) (by decide)
theorem i112_116 : m_G 112 116 L (.int x1 :: .int x0 :: st) μ = if x0 = x1 then m_G 112 121 L st μ else m_G 112 119 L st μ := g_cmpeq (off := 5) (by decide +kernel) (by decide)
theorem i112_119 : m_G 112 119 L st μ = m_G 112 120 L (.int 0 :: st) μ := g_iconst (n := 0) (by decide +kernel) (by decide)
theorem i112_120 (h : x0 &&& 1 = x0) : m_G 112 120 L [.int x0] μ = some (some (.int x0), μ) := g_iretz (by decide +kernel) (by decide) h
theorem i112_121 : m_G 112 121 [.ref a0, v1] st μ = m_G 112 122 [.ref a0, v1] (.ref a0 :: st) μ := g_aload_n (i := 0) (by decide +kernel) rfl
theorem i112_122 : m_G 112 122 [v0, .int x0] st μ = m_G 112 123 [v0, .int x0] (.int x0 :: st) μ := g_iload_n (i := 1) (by decide +kernel) rfl
theorem i112_123 : m_G 112 123 L st μ = m_G 112 125 L (.int 62 :: st) μ := g_bipush (n := 62) (by decide +kernel) (by decide)
theorem i112_125 : m_G 112 125 L (.int x1 :: .int x0 :: st) μ = if x0 = x1 then m_G 112 128 L st μ else m_G 112 133 L st μ := g_cmpne (off := 8) (by decide +kernel) (by decide)
theorem i112_128 : m_G 112 128 L st μ = m_G 112 130 L (.int 20 :: st) μ := g_bipush (n := 20) (by decide +kernel) (by decide)
theorem i112_130 : m_G 112 130 L st μ = m_G 112 139 L st μ := g_goto (off := 9) (by decide +kernel) (by decide)
theorem i112_133 : m_G 112 133 L st μ = m_G 112 134 L (.int 5 :: st) μ := g_iconst (n := 5) (by decide +kernel) (by decide)
theorem i112_134 : m_G 112 134 [v0, .int x0] st μ = m_G 112 135 [v0, .int x0] (.int x0 :: st) μ := g_iload_n (i := 1) (by decide +kernel) rfl
theorem i112_135 : m_G 112 135 L (.int x1 :: .int x0 :: st) μ = m_G 112 136 L (.int (x0 + x1) :: st) μ := g_iadd (by decide +kernel)
theorem i112_136 : m_G 112 136 L st μ = m_G 112 138 L (.int 48 :: st) μ := g_bipush (n := 48) (by decide +kernel) (by decide)
theorem i112_138 : m_G 112 138 L (.int x1 :: .int x0 :: st) μ = m_G 112 139 L (.int (x0 - x1) :: st) μ := g_isub (by decide +kernel)
theorem i112_139 (ho : m_oc μ a0 = some 9) : m_G 112 139 L (.int x0 :: .ref a0 :: []) μ = b_c (m_D 111 [.ref a0, .int x0] μ) 112 142 L [] := g_virt (i := 135) (n := 1) (a := a0) (c := 9) (l := [(9, 111)]) (by decide +kernel) (by decide +kernel) rfl rfl (x_call_ok (ws := [1, 1]) (Nat.le_of_ble_eq_true rfl) rfl (by decide +kernel) rfl (by decide +kernel) rfl rfl) ho
theorem i112_142 : m_G 112 142 L st μ = m_G 112 143 L (.int 1 :: st) μ := g_iconst (n := 1) (by decide +kernel) (by decide)
theorem i112_143 (h : x0 &&& 1 = x0) : m_G 112 143 L [.int x0] μ = some (some (.int x0), μ) := g_iretz (by decide +kernel) (by decide) h
theorem D112 : m_D 112 [.ref a0, .int x0] μ = m_G 112 0 [.ref a0, .int x0] [] μ := d_def (by decide) rfl
theorem i113_0 : m_G 113 0 [.ref a0, v1, v2] st μ = m_G 113 1 [.ref a0, v1, v2] (.ref a0 :: st) μ := g_aload_n (i := 0) (by decide +kernel) rfl
theorem i113_1 : m_G 113 1 L st μ = m_G 113 2 L (.int 0 :: st) μ := g_iconst (n := 0) (by decide +kernel) (by decide)
theorem i113_2 : m_G 113 2 L (w0 :: .ref a0 :: st) μ = b_m (m_pf μ a0 9 9 .int w0) 113 5 L st := g_putf (i := 122) (by decide +kernel) (by decide +kernel) (Or.inl (by decide)) (by decide)
theorem i113_5 : m_G 113 5 [.ref a0, v1, v2] st μ = m_G 113 6 [.ref a0, v1, v2] (.ref a0 :: st) μ := g_aload_n (i := 0) (by decide +kernel) rfl
theorem i113_6 : m_G 113 6 L st μ = m_G 113 7 L (.int 0 :: st) μ := g_iconst (n := 0) (by decide +kernel) (by decide)
theorem i113_7 : m_G 113 7 L (w0 :: .ref a0 :: st) μ = b_m (m_pf μ a0 9 10 .int w0) 113 10 L st := g_putf (i := 95) (by decide +kernel) (by decide +kernel) (Or.inl (by decide)) (by decide)
theorem i113_10 : m_G 113 10 [.ref a0, v1, v2] st μ = m_G 113 11 [.ref a0, v1, v2] (.ref a0 :: st) μ := g_aload_n (i := 0) (by decide +kernel) rfl
theorem i113_11 : m_G 113 11 L st μ = m_G 113 12 L (.int (-1) :: st) μ := g_iconst (n := -1) (by decide +kernel) (by decide)
theorem i113_12 : m_G 113 12 L (w0 :: .ref a0 :: st) μ = b_m (m_pf μ a0 9 14 .int w0) 113 15 L st := g_putf (i := 119) (by decide +kernel) (by decide +kernel) (Or.inl (by decide)) (by decide)
theorem i113_15 : m_G 113 15 [.ref a0, v1, v2] st μ = m_G 113 16 [.ref a0, v1, v2] (.ref a0 :: st) μ := g_aload_n (i := 0) (by decide +kernel) rfl
theorem i113_16 : m_G 113 16 L st μ = m_G 113 17 L (.int 0 :: st) μ := g_iconst (n := 0) (by decide +kernel) (by decide)
theorem i113_17 : m_G 113 17 L (w0 :: .ref a0 :: st) μ = b_m (m_pf μ a0 9 16 .int w0) 113 20 L st := g_putf (i := 132) (by decide +kernel) (by decide +kernel) (Or.inl (by decide)) (by decide)
theorem i113_20 : m_G 113 20 L st μ = m_G 113 21 L (.int 0 :: st) μ := g_iconst (n := 0) (by decide +kernel) (by decide)
theorem i113_21 : m_G 113 21 [v0, v1, v2] (.int x0 :: st) μ = m_G 113 22 [v0, v1, .int x0] st μ := g_istore_n (i := 2) (by decide +kernel) (Nat.le_of_ble_eq_true rfl) rfl
theorem i113_22 : m_G 113 22 [v0, v1, .int x0] st μ = m_G 113 23 [v0, v1, .int x0] (.int x0 :: st) μ := g_iload_n (i := 2) (by decide +kernel) rfl
theorem i113_23 : m_G 113 23 [.ref a0, v1, v2] st μ = m_G 113 24 [.ref a0, v1, v2] (.ref a0 :: st) μ := g_aload_n (i := 0) (by decide +kernel) rfl
theorem i113_24 : m_G 113 24 L (.ref a0 :: st) μ = b_v (m_gf μ a0 9 8) 113 27 L st μ := g_getf (i := 112) (by decide +kernel) (by decide +kernel)
theorem i113_27 : m_G 113 27 L (.int x1 :: .int x0 :: st) μ = if x0 < x1 then m_G 113 30 L st μ else m_G 113 69 L st μ := g_cmpge (off := 42) (by decide +kernel) (by decide)
theorem i113_30 : m_G 113 30 [v0, .int x0, v2] st μ = m_G 113 31 [v0, .int x0, v2] (.int x0 :: st) μ := g_iload_n (i := 1) (by decide +kernel) rfl
theorem i113_31 : m_G 113 31 L (.int x0 :: st) μ = if x0 = 0 then m_G 113 34 L st μ else m_G 113 50 L st μ := g_ifne (off := 19) (by decide +kernel) (by decide)
theorem i113_34 : m_G 113 34 [.ref a0, v1, v2] st μ = m_G 113 35 [.ref a0, v1, v2] (.ref a0 :: st) μ := g_aload_n (i := 0) (by decide +kernel) rfl
theorem i113_35 : m_G 113 35 [.ref a0, v1, v2] st μ = m_G 113 36 [.ref a0, v1, v2] (.ref a0 :: st) μ := g_aload_n (i := 0) (by decide +kernel) rfl
theorem i113_36 : m_G 113 36 L (.ref a0 :: st) μ = b_v (m_gf μ a0 9 7) 113 39 L st μ := g_getf (i := 29) (by decide +kernel) (by decide +kernel)
theorem i113_39 : m_G 113 39 [v0, v1, .int x0] st μ = m_G 113 40 [v0, v1, .int x0] (.int x0 :: st) μ := g_iload_n (i := 2) (by decide +kernel) rfl
theorem i113_40 : m_G 113 40 L (.int x0 :: .ref a0 :: st) μ = b_i (m_ga μ a0 x0) 113 41 L st μ := g_iald (by decide +kernel)
theorem i113_41 (ho : m_oc μ a0 = some 9) : m_G 113 41 L (.int x0 :: .ref a0 :: []) μ = b_c (m_D 110 [.ref a0, .int x0] μ) 113 44 L [] := g_virt (i := 139) (n := 1) (a := a0) (c := 9) (l := [(9, 110)]) (by decide +kernel) (by decide +kernel) rfl rfl (x_call_ok (ws := [1, 1]) (Nat.le_of_ble_eq_true rfl) rfl (by decide +kernel) rfl (by decide +kernel) rfl rfl) ho
theorem i113_44 : m_G 113 44 L (.int x0 :: st) μ = if x0 = 0 then m_G 113 69 L st μ else m_G 113 47 L st μ := g_ifeq (off := 25) (by decide +kernel) (by decide)
theorem i113_47 : m_G 113 47 L st μ = m_G 113 63 L st μ := g_goto (off := 16) (by decide +kernel) (by decide)
theorem i113_50 : m_G 113 50 [.ref a0, v1, v2] st μ = m_G 113 51 [.ref a0, v1, v2] (.ref a0 :: st) μ := g_aload_n (i := 0) (by decide +kernel) rfl
theorem i113_51 : m_G 113 51 [.ref a0, v1, v2] st μ = m_G 113 52 [.ref a0, v1, v2] (.ref a0 :: st) μ := g_aload_n (i := 0) (by decide +kernel) rfl
theorem i113_52 : m_G 113 52 L (.ref a0 :: st) μ = b_v (m_gf μ a0 9 7) 113 55 L st μ := g_getf (i := 29) (by decide +kernel) (by decide +kernel)
theorem i113_55 : m_G 113 55 [v0, v1, .int x0] st μ = m_G 113 56 [v0, v1, .int x0] (.int x0 :: st) μ := g_iload_n (i := 2) (by decide +kernel) rfl
theorem i113_56 : m_G 113 56 L (.int x0 :: .ref a0 :: st) μ = b_i (m_ga μ a0 x0) 113 57 L st μ := g_iald (by decide +kernel)
theorem i113_57 (ho : m_oc μ a0 = some 9) : m_G 113 57 L (.int x0 :: .ref a0 :: []) μ = b_c (m_D 112 [.ref a0, .int x0] μ) 113 60 L [] := g_virt (i := 142) (n := 1) (a := a0) (c := 9) (l := [(9, 112)]) (by decide +kernel) (by decide +kernel) rfl rfl (x_call_ok (ws := [1, 1]) (Nat.le_of_ble_eq_true rfl) rfl (by decide +kernel) rfl (by decide +kernel) rfl rfl) ho
theorem i113_60 : m_G 113 60 L (.int x0 :: st) μ = if x0 = 0 then m_G 113 69 L st μ else m_G 113 63 L st μ := g_ifeq (off := 9) (by decide +kernel) (by decide)
theorem i113_63 : m_G 113 63 [v0, v1, .int x0] st μ = m_G 113 66 [v0, v1, .int (x0 + 1)] st μ := g_iinc (i := 2) (n := 1) (by decide +kernel) rfl (by decide) rfl
theorem i113_66 : m_G 113 66 L st μ = m_G 113 22 L st μ := g_goto (off := -44) (by decide +kernel) (by decide)
theorem i113_69 : m_G 113 69 [v0, v1, .int x0] st μ = m_G 113 70 [v0, v1, .int x0] (.int x0 :: st) μ := g_iload_n (i := 2) (by decide +kernel) rfl
theorem i113_70 : m_G 113 70 L [.int x0] μ = some (some (.int x0), μ) := g_ireti (by decide +kernel) (by decide)
theorem D113 : m_D 113 [.ref a0, .int x0] μ = m_G 113 0 [.ref a0, .int x0, m_d] [] μ := d_def (by decide) rfl
theorem i114_0 : m_G 114 0 [v0, .int x0] st μ = m_G 114 1 [v0, .int x0] (.int x0 :: st) μ := g_iload_n (i := 1) (by decide +kernel) rfl
theorem i114_1 : m_G 114 1 L (.int x0 :: st) μ = m_G 114 2 L (.long x0.toInt64 :: st) μ := g_i2l (by decide +kernel)
theorem i114_2 : m_G 114 2 L st μ = m_G 114 3 L (.long 0 :: st) μ := g_lconst (n := 0) (by decide +kernel) (by decide)
theorem i114_3 : m_G 114 3 L st μ = m_G 114 4 L (.long 1 :: st) μ := g_lconst (n := 1) (by decide +kernel) (by decide)
theorem i114_4 : m_G 114 4 L (.long l2 :: .long l1 :: .long l0 :: []) μ = b_c (m_D 102 [.long l0, .long l1, .long l2] μ) 114 7 L [] := g_stat (i := 102) (n := 3) (by decide +kernel) (by decide +kernel) (by decide) (x_call_ok (ws := [2, 2, 2]) (Nat.le_of_ble_eq_true rfl) rfl (by decide +kernel) rfl (by decide +kernel) rfl rfl)
theorem i114_7 : m_G 114 7 L (.int x0 :: st) μ = if x0 = 0 then m_G 114 18 L st μ else m_G 114 10 L st μ := g_ifeq (off := 11) (by decide +kernel) (by decide)
theorem i114_10 : m_G 114 10 [.ref a0, v1] st μ = m_G 114 11 [.ref a0, v1] (.ref a0 :: st) μ := g_aload_n (i := 0) (by decide +kernel) rfl
theorem i114_11 : m_G 114 11 [v0, .int x0] st μ = m_G 114 12 [v0, .int x0] (.int x0 :: st) μ := g_iload_n (i := 1) (by decide +kernel) rfl
theorem i114_12 (ho : m_oc μ a0 = some 9) : m_G 114 12 L (.int x0 :: .ref a0 :: []) μ = b_c (m_D 113 [.ref a0, .int x0] μ) 114 15 L [] := g_virt (i := 145) (n := 1) (a := a0) (c := 9) (l := [(9, 113)]) (by decide +kernel) (by decide +kernel) rfl rfl (x_call_ok (ws := [1, 1]) (Nat.le_of_ble_eq_true rfl) rfl (by decide +kernel) rfl (by decide +kernel) rfl rfl) ho
theorem i114_15 : m_G 114 15 L st μ = m_G 114 20 L st μ := g_goto (off := 5) (by decide +kernel) (by decide)
theorem i114_18 : m_G 114 18 L st μ = m_G 114 20 L (.int (-102) :: st) μ := g_bipush (n := -102) (by decide +kernel) (by decide)
theorem i114_20 : m_G 114 20 L [.int x0] μ = some (some (.int x0), μ) := g_ireti (by decide +kernel) (by decide)
theorem D114 : m_D 114 [.ref a0, .int x0] μ = m_G 114 0 [.ref a0, .int x0] [] μ := d_def (by decide) rfl
theorem i115_0 : m_G 115 0 [.ref a0, v1] st μ = m_G 115 1 [.ref a0, v1] (.ref a0 :: st) μ := g_aload_n (i := 0) (by decide +kernel) rfl
theorem i115_1 : m_G 115 1 L st μ = m_G 115 2 L (.int 0 :: st) μ := g_iconst (n := 0) (by decide +kernel) (by decide)
theorem i115_2 (ho : m_oc μ a0 = some 9) : m_G 115 2 L (.int x0 :: .ref a0 :: []) μ = b_c (m_D 113 [.ref a0, .int x0] μ) 115 5 L [] := g_virt (i := 145) (n := 1) (a := a0) (c := 9) (l := [(9, 113)]) (by decide +kernel) (by decide +kernel) rfl rfl (x_call_ok (ws := [1, 1]) (Nat.le_of_ble_eq_true rfl) rfl (by decide +kernel) rfl (by decide +kernel) rfl rfl) ho
theorem i115_5 : m_G 115 5 [.ref a0, v1] st μ = m_G 115 6 [.ref a0, v1] (.ref a0 :: st) μ := g_aload_n (i := 0) (by decide +kernel) rfl
theorem i115_6 : m_G 115 6 L (.ref a0 :: st) μ = b_v (m_gf μ a0 9 8) 115 9 L st μ := g_getf (i := 112) (by decide +kernel) (by decide +kernel)
theorem i115_9 : m_G 115 9 L (.int x1 :: .int x0 :: st) μ = if x0 < x1 then m_G 115 27 L st μ else m_G 115 12 L st μ := g_cmplt (off := 18) (by decide +kernel) (by decide)
theorem i115_12 : m_G 115 12 [.ref a0, v1] st μ = m_G 115 13 [.ref a0, v1] (.ref a0 :: st) μ := g_aload_n (i := 0) (by decide +kernel) rfl
theorem i115_13 : m_G 115 13 L (.ref a0 :: st) μ = b_v (m_gf μ a0 9 9) 115 16 L st μ := g_getf (i := 122) (by decide +kernel) (by decide +kernel)
theorem i115_16 : m_G 115 16 L (.int x0 :: st) μ = if x0 = 0 then m_G 115 27 L st μ else m_G 115 19 L st μ := g_ifeq (off := 11) (by decide +kernel) (by decide)
theorem i115_19 : m_G 115 19 [.ref a0, v1] st μ = m_G 115 20 [.ref a0, v1] (.ref a0 :: st) μ := g_aload_n (i := 0) (by decide +kernel) rfl
theorem i115_20 : m_G 115 20 L (.ref a0 :: st) μ = b_v (m_gf μ a0 9 14) 115 23 L st μ := g_getf (i := 119) (by decide +kernel) (by decide +kernel)
theorem i115_23 : m_G 115 23 L st μ = m_G 115 24 L (.int (-1) :: st) μ := g_iconst (n := -1) (by decide +kernel) (by decide)
theorem i115_24 : m_G 115 24 L (.int x1 :: .int x0 :: st) μ = if x0 = x1 then m_G 115 30 L st μ else m_G 115 27 L st μ := g_cmpeq (off := 6) (by decide +kernel) (by decide)
theorem i115_27 : m_G 115 27 L st μ = m_G 115 29 L (.int (-103) :: st) μ := g_bipush (n := -103) (by decide +kernel) (by decide)
theorem i115_29 : m_G 115 29 L [.int x0] μ = some (some (.int x0), μ) := g_ireti (by decide +kernel) (by decide)
theorem i115_30 : m_G 115 30 [.ref a0, v1] st μ = m_G 115 31 [.ref a0, v1] (.ref a0 :: st) μ := g_aload_n (i := 0) (by decide +kernel) rfl
theorem i115_31 : m_G 115 31 L (.ref a0 :: st) μ = b_v (m_gf μ a0 9 0) 115 34 L st μ := g_getf (i := 99) (by decide +kernel) (by decide +kernel)
theorem i115_34 : m_G 115 34 L st μ = m_G 115 36 L (.int 8 :: st) μ := g_bipush (n := 8) (by decide +kernel) (by decide)
theorem i115_36 : m_G 115 36 L (.int x1 :: .int x0 :: st) μ = if x0 = x1 then m_G 115 39 L st μ else m_G 115 42 L st μ := g_cmpne (off := 6) (by decide +kernel) (by decide)
theorem i115_39 : m_G 115 39 L st μ = m_G 115 41 L (.int (-104) :: st) μ := g_bipush (n := -104) (by decide +kernel) (by decide)
theorem i115_41 : m_G 115 41 L [.int x0] μ = some (some (.int x0), μ) := g_ireti (by decide +kernel) (by decide)
theorem i115_42 : m_G 115 42 [.ref a0, v1] st μ = m_G 115 43 [.ref a0, v1] (.ref a0 :: st) μ := g_aload_n (i := 0) (by decide +kernel) rfl
theorem i115_43 : m_G 115 43 L (.ref a0 :: st) μ = b_v (m_gf μ a0 9 1) 115 46 L st μ := g_getf (i := 7) (by decide +kernel) (by decide +kernel)
theorem i115_46 : m_G 115 46 [.ref a0, v1] st μ = m_G 115 47 [.ref a0, v1] (.ref a0 :: st) μ := g_aload_n (i := 0) (by decide +kernel) rfl
theorem i115_47 : m_G 115 47 L (.ref a0 :: st) μ = b_v (m_gf μ a0 9 0) 115 50 L st μ := g_getf (i := 99) (by decide +kernel) (by decide +kernel)
theorem i115_50 : m_G 115 50 [.ref a0, v1] st μ = m_G 115 51 [.ref a0, v1] (.ref a0 :: st) μ := g_aload_n (i := 0) (by decide +kernel) rfl
theorem i115_51 : m_G 115 51 L (.ref a0 :: st) μ = b_v (m_gf μ a0 9 10) 115 54 L st μ := g_getf (i := 95) (by decide +kernel) (by decide +kernel)
theorem i115_54 : m_G 115 54 L (.int x1 :: .int x0 :: .ref a0 :: st) μ = b_m (m_pa μ a0 x0 x1) 115 55 L st := g_iast (by decide +kernel)
theorem i115_55 : m_G 115 55 L st μ = m_G 115 56 L (.int 0 :: st) μ := g_iconst (n := 0) (by decide +kernel) (by decide)
theorem i115_56 : m_G 115 56 [v0, v1] (.int x0 :: st) μ = m_G 115 57 [v0, .int x0] st μ := g_istore_n (i := 1) (by decide +kernel) (Nat.le_of_ble_eq_true rfl) rfl
theorem i115_57 : m_G 115 57 [v0, .int x0] st μ = m_G 115 58 [v0, .int x0] (.int x0 :: st) μ := g_iload_n (i := 1) (by decide +kernel) rfl
theorem i115_58 : m_G 115 58 [.ref a0, v1] st μ = m_G 115 59 [.ref a0, v1] (.ref a0 :: st) μ := g_aload_n (i := 0) (by decide +kernel) rfl
theorem i115_59 : m_G 115 59 L (.ref a0 :: st) μ = b_v (m_gf μ a0 9 10) 115 62 L st μ := g_getf (i := 95) (by decide +kernel) (by decide +kernel)
theorem i115_62 : m_G 115 62 L (.int x1 :: .int x0 :: st) μ = if x0 < x1 then m_G 115 65 L st μ else m_G 115 131 L st μ := g_cmpge (off := 69) (by decide +kernel) (by decide)
theorem i115_65 : m_G 115 65 [.ref a0, v1] st μ = m_G 115 66 [.ref a0, v1] (.ref a0 :: st) μ := g_aload_n (i := 0) (by decide +kernel) rfl
theorem i115_66 : m_G 115 66 L (.ref a0 :: st) μ = b_v (m_gf μ a0 9 2) 115 69 L st μ := g_getf (i := 13) (by decide +kernel) (by decide +kernel)
theorem i115_69 : m_G 115 69 L st μ = m_G 115 71 L (.int 24 :: st) μ := g_bipush (n := 24) (by decide +kernel) (by decide)
theorem i115_71 : m_G 115 71 [.ref a0, v1] st μ = m_G 115 72 [.ref a0, v1] (.ref a0 :: st) μ := g_aload_n (i := 0) (by decide +kernel) rfl
theorem i115_72 : m_G 115 72 L (.ref a0 :: st) μ = b_v (m_gf μ a0 9 0) 115 75 L st μ := g_getf (i := 99) (by decide +kernel) (by decide +kernel)
theorem i115_75 : m_G 115 75 L (.int x1 :: .int x0 :: st) μ = m_G 115 76 L (.int (x0 * x1) :: st) μ := g_imul (by decide +kernel)
theorem i115_76 : m_G 115 76 [v0, .int x0] st μ = m_G 115 77 [v0, .int x0] (.int x0 :: st) μ := g_iload_n (i := 1) (by decide +kernel) rfl
theorem i115_77 : m_G 115 77 L (.int x1 :: .int x0 :: st) μ = m_G 115 78 L (.int (x0 + x1) :: st) μ := g_iadd (by decide +kernel)
theorem i115_78 : m_G 115 78 [.ref a0, v1] st μ = m_G 115 79 [.ref a0, v1] (.ref a0 :: st) μ := g_aload_n (i := 0) (by decide +kernel) rfl
theorem i115_79 : m_G 115 79 L (.ref a0 :: st) μ = b_v (m_gf μ a0 9 11) 115 82 L st μ := g_getf (i := 32) (by decide +kernel) (by decide +kernel)
theorem i115_82 : m_G 115 82 [v0, .int x0] st μ = m_G 115 83 [v0, .int x0] (.int x0 :: st) μ := g_iload_n (i := 1) (by decide +kernel) rfl
theorem i115_83 : m_G 115 83 L (.int x0 :: .ref a0 :: st) μ = b_i (m_ga μ a0 x0) 115 84 L st μ := g_iald (by decide +kernel)
theorem i115_84 : m_G 115 84 L (.int x1 :: .int x0 :: .ref a0 :: st) μ = b_m (m_pa μ a0 x0 x1) 115 85 L st := g_iast (by decide +kernel)
theorem i115_85 : m_G 115 85 [.ref a0, v1] st μ = m_G 115 86 [.ref a0, v1] (.ref a0 :: st) μ := g_aload_n (i := 0) (by decide +kernel) rfl
theorem i115_86 : m_G 115 86 L (.ref a0 :: st) μ = b_v (m_gf μ a0 9 3) 115 89 L st μ := g_getf (i := 16) (by decide +kernel) (by decide +kernel)
theorem i115_89 : m_G 115 89 L st μ = m_G 115 91 L (.int 24 :: st) μ := g_bipush (n := 24) (by decide +kernel) (by decide)
theorem i115_91 : m_G 115 91 [.ref a0, v1] st μ = m_G 115 92 [.ref a0, v1] (.ref a0 :: st) μ := g_aload_n (i := 0) (by decide +kernel) rfl
theorem i115_92 : m_G 115 92 L (.ref a0 :: st) μ = b_v (m_gf μ a0 9 0) 115 95 L st μ := g_getf (i := 99) (by decide +kernel) (by decide +kernel)
theorem i115_95 : m_G 115 95 L (.int x1 :: .int x0 :: st) μ = m_G 115 96 L (.int (x0 * x1) :: st) μ := g_imul (by decide +kernel)
theorem i115_96 : m_G 115 96 [v0, .int x0] st μ = m_G 115 97 [v0, .int x0] (.int x0 :: st) μ := g_iload_n (i := 1) (by decide +kernel) rfl
theorem i115_97 : m_G 115 97 L (.int x1 :: .int x0 :: st) μ = m_G 115 98 L (.int (x0 + x1) :: st) μ := g_iadd (by decide +kernel)
theorem i115_98 : m_G 115 98 [.ref a0, v1] st μ = m_G 115 99 [.ref a0, v1] (.ref a0 :: st) μ := g_aload_n (i := 0) (by decide +kernel) rfl
theorem i115_99 : m_G 115 99 L (.ref a0 :: st) μ = b_v (m_gf μ a0 9 12) 115 102 L st μ := g_getf (i := 35) (by decide +kernel) (by decide +kernel)
theorem i115_102 : m_G 115 102 [v0, .int x0] st μ = m_G 115 103 [v0, .int x0] (.int x0 :: st) μ := g_iload_n (i := 1) (by decide +kernel) rfl
theorem i115_103 : m_G 115 103 L (.int x0 :: .ref a0 :: st) μ = b_i (m_ga μ a0 x0) 115 104 L st μ := g_iald (by decide +kernel)
theorem i115_104 : m_G 115 104 L (.int x1 :: .int x0 :: .ref a0 :: st) μ = b_m (m_pa μ a0 x0 x1) 115 105 L st := g_iast (by decide +kernel)
theorem i115_105 : m_G 115 105 [.ref a0, v1] st μ = m_G 115 106 [.ref a0, v1] (.ref a0 :: st) μ := g_aload_n (i := 0) (by decide +kernel) rfl
theorem i115_106 : m_G 115 106 L (.ref a0 :: st) μ = b_v (m_gf μ a0 9 4) 115 109 L st μ := g_getf (i := 19) (by decide +kernel) (by decide +kernel)
theorem i115_109 : m_G 115 109 L st μ = m_G 115 111 L (.int 24 :: st) μ := g_bipush (n := 24) (by decide +kernel) (by decide)
theorem i115_111 : m_G 115 111 [.ref a0, v1] st μ = m_G 115 112 [.ref a0, v1] (.ref a0 :: st) μ := g_aload_n (i := 0) (by decide +kernel) rfl
theorem i115_112 : m_G 115 112 L (.ref a0 :: st) μ = b_v (m_gf μ a0 9 0) 115 115 L st μ := g_getf (i := 99) (by decide +kernel) (by decide +kernel)
theorem i115_115 : m_G 115 115 L (.int x1 :: .int x0 :: st) μ = m_G 115 116 L (.int (x0 * x1) :: st) μ := g_imul (by decide +kernel)
theorem i115_116 : m_G 115 116 [v0, .int x0] st μ = m_G 115 117 [v0, .int x0] (.int x0 :: st) μ := g_iload_n (i := 1) (by decide +kernel) rfl
theorem i115_117 : m_G 115 117 L (.int x1 :: .int x0 :: st) μ = m_G 115 118 L (.int (x0 + x1) :: st) μ := g_iadd (by decide +kernel)
theorem i115_118 : m_G 115 118 [.ref a0, v1] st μ = m_G 115 119 [.ref a0, v1] (.ref a0 :: st) μ := g_aload_n (i := 0) (by decide +kernel) rfl
theorem i115_119 : m_G 115 119 L (.ref a0 :: st) μ = b_v (m_gf μ a0 9 13) 115 122 L st μ := g_getf (i := 38) (by decide +kernel) (by decide +kernel)
theorem i115_122 : m_G 115 122 [v0, .int x0] st μ = m_G 115 123 [v0, .int x0] (.int x0 :: st) μ := g_iload_n (i := 1) (by decide +kernel) rfl
theorem i115_123 : m_G 115 123 L (.int x0 :: .ref a0 :: st) μ = b_i (m_ga μ a0 x0) 115 124 L st μ := g_iald (by decide +kernel)
theorem i115_124 : m_G 115 124 L (.int x1 :: .int x0 :: .ref a0 :: st) μ = b_m (m_pa μ a0 x0 x1) 115 125 L st := g_iast (by decide +kernel)
theorem i115_125 : m_G 115 125 [v0, .int x0] st μ = m_G 115 128 [v0, .int (x0 + 1)] st μ := g_iinc (i := 1) (n := 1) (by decide +kernel) rfl (by decide) rfl
theorem i115_128 : m_G 115 128 L st μ = m_G 115 57 L st μ := g_goto (off := -71) (by decide +kernel) (by decide)
theorem i115_131 : m_G 115 131 [.ref a0, v1] st μ = m_G 115 132 [.ref a0, v1] (.ref a0 :: st) μ := g_aload_n (i := 0) (by decide +kernel) rfl
theorem i115_132 : m_G 115 132 L (.ref a0 :: st) μ = m_G 115 133 L (.ref a0 :: .ref a0 :: st) μ := g_dupr (by decide +kernel)
theorem i115_132I : m_G 115 132 L (.int x0 :: st) μ = m_G 115 133 L (.int x0 :: .int x0 :: st) μ := g_dupi (by decide +kernel)
theorem i115_133 : m_G 115 133 L (.ref a0 :: st) μ = b_v (m_gf μ a0 9 0) 115 136 L st μ := g_getf (i := 99) (by decide +kernel) (by decide +kernel)
theorem i115_136 : m_G 115 136 L st μ = m_G 115 137 L (.int 1 :: st) μ := g_iconst (n := 1) (by decide +kernel) (by decide)
theorem i115_137 : m_G 115 137 L (.int x1 :: .int x0 :: st) μ = m_G 115 138 L (.int (x0 + x1) :: st) μ := g_iadd (by decide +kernel)
theorem i115_138 : m_G 115 138 L (w0 :: .ref a0 :: st) μ = b_m (m_pf μ a0 9 0 .int w0) 115 141 L st := g_putf (i := 99) (by decide +kernel) (by decide +kernel) (Or.inl (by decide)) (by decide)
theorem i115_141 : m_G 115 141 [.ref a0, v1] st μ = m_G 115 142 [.ref a0, v1] (.ref a0 :: st) μ := g_aload_n (i := 0) (by decide +kernel) rfl
theorem i115_142 : m_G 115 142 L st μ = m_G 115 143 L (.int 0 :: st) μ := g_iconst (n := 0) (by decide +kernel) (by decide)
theorem i115_143 : m_G 115 143 L (w0 :: .ref a0 :: st) μ = b_m (m_pf μ a0 9 8 .int w0) 115 146 L st := g_putf (i := 112) (by decide +kernel) (by decide +kernel) (Or.inl (by decide)) (by decide)
theorem i115_146 : m_G 115 146 [.ref a0, v1] st μ = m_G 115 147 [.ref a0, v1] (.ref a0 :: st) μ := g_aload_n (i := 0) (by decide +kernel) rfl
theorem i115_147 : m_G 115 147 L (.ref a0 :: st) μ = b_v (m_gf μ a0 9 0) 115 150 L st μ := g_getf (i := 99) (by decide +kernel) (by decide +kernel)
theorem i115_150 : m_G 115 150 L st μ = m_G 115 151 L (.int 1 :: st) μ := g_iconst (n := 1) (by decide +kernel) (by decide)
theorem i115_151 : m_G 115 151 L (.int x1 :: .int x0 :: st) μ = m_G 115 152 L (.int (x0 - x1) :: st) μ := g_isub (by decide +kernel)
theorem i115_152 : m_G 115 152 L [.int x0] μ = some (some (.int x0), μ) := g_ireti (by decide +kernel) (by decide)
theorem D115 : m_D 115 [.ref a0] μ = m_G 115 0 [.ref a0, m_d] [] μ := d_def (by decide) rfl
theorem i116_0 : m_G 116 0 [v0, .int x0, v2] st μ = m_G 116 1 [v0, .int x0, v2] (.int x0 :: st) μ := g_iload_n (i := 1) (by decide +kernel) rfl
theorem i116_1 : m_G 116 1 L (.int x0 :: st) μ = m_G 116 2 L (.long x0.toInt64 :: st) μ := g_i2l (by decide +kernel)
theorem i116_2 : m_G 116 2 L st μ = m_G 116 3 L (.long 0 :: st) μ := g_lconst (n := 0) (by decide +kernel) (by decide)
theorem i116_3 : m_G 116 3 L st μ = m_G 116 6 L (.long (5) :: st) μ := g_ldc2_w (i := 149) (by decide +kernel) (by decide +kernel)
theorem i116_6 : m_G 116 6 L (.long l2 :: .long l1 :: .long l0 :: []) μ = b_c (m_D 102 [.long l0, .long l1, .long l2] μ) 116 9 L [] := g_stat (i := 102) (n := 3) (by decide +kernel) (by decide +kernel) (by decide) (x_call_ok (ws := [2, 2, 2]) (Nat.le_of_ble_eq_true rfl) rfl (by decide +kernel) rfl (by decide +kernel) rfl rfl)
theorem i116_9 : m_G 116 9 L (.int x0 :: st) μ = if x0 = 0 then m_G 116 12 L st μ else m_G 116 15 L st μ := g_ifne (off := 6) (by decide +kernel) (by decide)
theorem i116_12 : m_G 116 12 L st μ = m_G 116 14 L (.int (-102) :: st) μ := g_bipush (n := -102) (by decide +kernel) (by decide)
theorem i116_14 : m_G 116 14 L [.int x0] μ = some (some (.int x0), μ) := g_ireti (by decide +kernel) (by decide)
theorem i116_15 : m_G 116 15 [.ref a0, v1, v2] st μ = m_G 116 16 [.ref a0, v1, v2] (.ref a0 :: st) μ := g_aload_n (i := 0) (by decide +kernel) rfl
theorem i116_16 : m_G 116 16 L st μ = m_G 116 17 L (.int 1 :: st) μ := g_iconst (n := 1) (by decide +kernel) (by decide)
theorem i116_17 (ho : m_oc μ a0 = some 9) : m_G 116 17 L (.int x0 :: .ref a0 :: []) μ = b_c (m_D 113 [.ref a0, .int x0] μ) 116 20 L [] := g_virt (i := 145) (n := 1) (a := a0) (c := 9) (l := [(9, 113)]) (by decide +kernel) (by decide +kernel) rfl rfl (x_call_ok (ws := [1, 1]) (Nat.le_of_ble_eq_true rfl) rfl (by decide +kernel) rfl (by decide +kernel) rfl rfl) ho
theorem i116_20 : m_G 116 20 [.ref a0, v1, v2] st μ = m_G 116 21 [.ref a0, v1, v2] (.ref a0 :: st) μ := g_aload_n (i := 0) (by decide +kernel) rfl
theorem i116_21 : m_G 116 21 L (.ref a0 :: st) μ = b_v (m_gf μ a0 9 8) 116 24 L st μ := g_getf (i := 112) (by decide +kernel) (by decide +kernel)
theorem i116_24 : m_G 116 24 L (.int x1 :: .int x0 :: st) μ = if x0 < x1 then m_G 116 35 L st μ else m_G 116 27 L st μ := g_cmplt (off := 11) (by decide +kernel) (by decide)
theorem i116_27 : m_G 116 27 [.ref a0, v1, v2] st μ = m_G 116 28 [.ref a0, v1, v2] (.ref a0 :: st) μ := g_aload_n (i := 0) (by decide +kernel) rfl
theorem i116_28 : m_G 116 28 L (.ref a0 :: st) μ = b_v (m_gf μ a0 9 9) 116 31 L st μ := g_getf (i := 122) (by decide +kernel) (by decide +kernel)
theorem i116_31 : m_G 116 31 L st μ = m_G 116 32 L (.int 2 :: st) μ := g_iconst (n := 2) (by decide +kernel) (by decide)
theorem i116_32 : m_G 116 32 L (.int x1 :: .int x0 :: st) μ = if x0 = x1 then m_G 116 38 L st μ else m_G 116 35 L st μ := g_cmpeq (off := 6) (by decide +kernel) (by decide)
theorem i116_35 : m_G 116 35 L st μ = m_G 116 37 L (.int (-103) :: st) μ := g_bipush (n := -103) (by decide +kernel) (by decide)
theorem i116_37 : m_G 116 37 L [.int x0] μ = some (some (.int x0), μ) := g_ireti (by decide +kernel) (by decide)
theorem i116_38 : m_G 116 38 [.ref a0, v1, v2] st μ = m_G 116 39 [.ref a0, v1, v2] (.ref a0 :: st) μ := g_aload_n (i := 0) (by decide +kernel) rfl
theorem i116_39 : m_G 116 39 L (.ref a0 :: st) μ = b_v (m_gf μ a0 9 17) 116 42 L st μ := g_getf (i := 151) (by decide +kernel) (by decide +kernel)
theorem i116_42 : m_G 116 42 L st μ = m_G 116 44 L (.int 10 :: st) μ := g_bipush (n := 10) (by decide +kernel) (by decide)
theorem i116_44 : m_G 116 44 L (.int x1 :: .int x0 :: st) μ = if x0 = x1 then m_G 116 47 L st μ else m_G 116 50 L st μ := g_cmpne (off := 6) (by decide +kernel) (by decide)
theorem i116_47 : m_G 116 47 L st μ = m_G 116 49 L (.int (-104) :: st) μ := g_bipush (n := -104) (by decide +kernel) (by decide)
theorem i116_49 : m_G 116 49 L [.int x0] μ = some (some (.int x0), μ) := g_ireti (by decide +kernel) (by decide)
theorem i116_50 : m_G 116 50 [.ref a0, v1, v2] st μ = m_G 116 51 [.ref a0, v1, v2] (.ref a0 :: st) μ := g_aload_n (i := 0) (by decide +kernel) rfl
theorem i116_51 : m_G 116 51 L (.ref a0 :: st) μ = b_v (m_gf μ a0 9 18) 116 54 L st μ := g_getf (i := 44) (by decide +kernel) (by decide +kernel)
theorem i116_54 : m_G 116 54 [.ref a0, v1, v2] st μ = m_G 116 55 [.ref a0, v1, v2] (.ref a0 :: st) μ := g_aload_n (i := 0) (by decide +kernel) rfl
theorem i116_55 : m_G 116 55 L (.ref a0 :: st) μ = b_v (m_gf μ a0 9 17) 116 58 L st μ := g_getf (i := 151) (by decide +kernel) (by decide +kernel)
theorem i116_58 : m_G 116 58 [v0, .int x0, v2] st μ = m_G 116 59 [v0, .int x0, v2] (.int x0 :: st) μ := g_iload_n (i := 1) (by decide +kernel) rfl
theorem i116_59 : m_G 116 59 L (.int x1 :: .int x0 :: .ref a0 :: st) μ = b_m (m_pa μ a0 x0 x1) 116 60 L st := g_iast (by decide +kernel)
theorem i116_60 : m_G 116 60 [.ref a0, v1, v2] st μ = m_G 116 61 [.ref a0, v1, v2] (.ref a0 :: st) μ := g_aload_n (i := 0) (by decide +kernel) rfl
theorem i116_61 : m_G 116 61 L (.ref a0 :: st) μ = b_v (m_gf μ a0 9 19) 116 64 L st μ := g_getf (i := 47) (by decide +kernel) (by decide +kernel)
theorem i116_64 : m_G 116 64 [.ref a0, v1, v2] st μ = m_G 116 65 [.ref a0, v1, v2] (.ref a0 :: st) μ := g_aload_n (i := 0) (by decide +kernel) rfl
theorem i116_65 : m_G 116 65 L (.ref a0 :: st) μ = b_v (m_gf μ a0 9 17) 116 68 L st μ := g_getf (i := 151) (by decide +kernel) (by decide +kernel)
theorem i116_68 : m_G 116 68 [.ref a0, v1, v2] st μ = m_G 116 69 [.ref a0, v1, v2] (.ref a0 :: st) μ := g_aload_n (i := 0) (by decide +kernel) rfl
theorem i116_69 : m_G 116 69 L (.ref a0 :: st) μ = b_v (m_gf μ a0 9 16) 116 72 L st μ := g_getf (i := 132) (by decide +kernel) (by decide +kernel)
theorem i116_72 : m_G 116 72 L (.int x1 :: .int x0 :: .ref a0 :: st) μ = b_m (m_pa μ a0 x0 x1) 116 73 L st := g_iast (by decide +kernel)
theorem i116_73 : m_G 116 73 L st μ = m_G 116 74 L (.int 0 :: st) μ := g_iconst (n := 0) (by decide +kernel) (by decide)
theorem i116_74 : m_G 116 74 [v0, v1, v2] (.int x0 :: st) μ = m_G 116 75 [v0, v1, .int x0] st μ := g_istore_n (i := 2) (by decide +kernel) (Nat.le_of_ble_eq_true rfl) rfl
theorem i116_75 : m_G 116 75 [v0, v1, .int x0] st μ = m_G 116 76 [v0, v1, .int x0] (.int x0 :: st) μ := g_iload_n (i := 2) (by decide +kernel) rfl
theorem i116_76 : m_G 116 76 [.ref a0, v1, v2] st μ = m_G 116 77 [.ref a0, v1, v2] (.ref a0 :: st) μ := g_aload_n (i := 0) (by decide +kernel) rfl
theorem i116_77 : m_G 116 77 L (.ref a0 :: st) μ = b_v (m_gf μ a0 9 16) 116 80 L st μ := g_getf (i := 132) (by decide +kernel) (by decide +kernel)
theorem i116_80 : m_G 116 80 L (.int x1 :: .int x0 :: st) μ = if x0 < x1 then m_G 116 83 L st μ else m_G 116 109 L st μ := g_cmpge (off := 29) (by decide +kernel) (by decide)
theorem i116_83 : m_G 116 83 [.ref a0, v1, v2] st μ = m_G 116 84 [.ref a0, v1, v2] (.ref a0 :: st) μ := g_aload_n (i := 0) (by decide +kernel) rfl
theorem i116_84 : m_G 116 84 L (.ref a0 :: st) μ = b_v (m_gf μ a0 9 20) 116 87 L st μ := g_getf (i := 50) (by decide +kernel) (by decide +kernel)
theorem i116_87 : m_G 116 87 L st μ = m_G 116 89 L (.int 6 :: st) μ := g_bipush (n := 6) (by decide +kernel) (by decide)
theorem i116_89 : m_G 116 89 [.ref a0, v1, v2] st μ = m_G 116 90 [.ref a0, v1, v2] (.ref a0 :: st) μ := g_aload_n (i := 0) (by decide +kernel) rfl
theorem i116_90 : m_G 116 90 L (.ref a0 :: st) μ = b_v (m_gf μ a0 9 17) 116 93 L st μ := g_getf (i := 151) (by decide +kernel) (by decide +kernel)
theorem i116_93 : m_G 116 93 L (.int x1 :: .int x0 :: st) μ = m_G 116 94 L (.int (x0 * x1) :: st) μ := g_imul (by decide +kernel)
theorem i116_94 : m_G 116 94 [v0, v1, .int x0] st μ = m_G 116 95 [v0, v1, .int x0] (.int x0 :: st) μ := g_iload_n (i := 2) (by decide +kernel) rfl
theorem i116_95 : m_G 116 95 L (.int x1 :: .int x0 :: st) μ = m_G 116 96 L (.int (x0 + x1) :: st) μ := g_iadd (by decide +kernel)
theorem i116_96 : m_G 116 96 [.ref a0, v1, v2] st μ = m_G 116 97 [.ref a0, v1, v2] (.ref a0 :: st) μ := g_aload_n (i := 0) (by decide +kernel) rfl
theorem i116_97 : m_G 116 97 L (.ref a0 :: st) μ = b_v (m_gf μ a0 9 15) 116 100 L st μ := g_getf (i := 41) (by decide +kernel) (by decide +kernel)
theorem i116_100 : m_G 116 100 [v0, v1, .int x0] st μ = m_G 116 101 [v0, v1, .int x0] (.int x0 :: st) μ := g_iload_n (i := 2) (by decide +kernel) rfl
theorem i116_101 : m_G 116 101 L (.int x0 :: .ref a0 :: st) μ = b_i (m_ga μ a0 x0) 116 102 L st μ := g_iald (by decide +kernel)
theorem i116_102 : m_G 116 102 L (.int x1 :: .int x0 :: .ref a0 :: st) μ = b_m (m_pa μ a0 x0 x1) 116 103 L st := g_iast (by decide +kernel)
theorem i116_103 : m_G 116 103 [v0, v1, .int x0] st μ = m_G 116 106 [v0, v1, .int (x0 + 1)] st μ := g_iinc (i := 2) (n := 1) (by decide +kernel) rfl (by decide) rfl
theorem i116_106 : m_G 116 106 L st μ = m_G 116 75 L st μ := g_goto (off := -31) (by decide +kernel) (by decide)
theorem i116_109 : m_G 116 109 [.ref a0, v1, v2] st μ = m_G 116 110 [.ref a0, v1, v2] (.ref a0 :: st) μ := g_aload_n (i := 0) (by decide +kernel) rfl
theorem i116_110 : m_G 116 110 L (.ref a0 :: st) μ = m_G 116 111 L (.ref a0 :: .ref a0 :: st) μ := g_dupr (by decide +kernel)
theorem i116_110I : m_G 116 110 L (.int x0 :: st) μ = m_G 116 111 L (.int x0 :: .int x0 :: st) μ := g_dupi (by decide +kernel)
theorem i116_111 : m_G 116 111 L (.ref a0 :: st) μ = b_v (m_gf μ a0 9 17) 116 114 L st μ := g_getf (i := 151) (by decide +kernel) (by decide +kernel)
theorem i116_114 : m_G 116 114 L st μ = m_G 116 115 L (.int 1 :: st) μ := g_iconst (n := 1) (by decide +kernel) (by decide)
theorem i116_115 : m_G 116 115 L (.int x1 :: .int x0 :: st) μ = m_G 116 116 L (.int (x0 + x1) :: st) μ := g_iadd (by decide +kernel)
theorem i116_116 : m_G 116 116 L (w0 :: .ref a0 :: st) μ = b_m (m_pf μ a0 9 17 .int w0) 116 119 L st := g_putf (i := 151) (by decide +kernel) (by decide +kernel) (Or.inl (by decide)) (by decide)
theorem i116_119 : m_G 116 119 [.ref a0, v1, v2] st μ = m_G 116 120 [.ref a0, v1, v2] (.ref a0 :: st) μ := g_aload_n (i := 0) (by decide +kernel) rfl
theorem i116_120 : m_G 116 120 L st μ = m_G 116 121 L (.int 0 :: st) μ := g_iconst (n := 0) (by decide +kernel) (by decide)
theorem i116_121 : m_G 116 121 L (w0 :: .ref a0 :: st) μ = b_m (m_pf μ a0 9 8 .int w0) 116 124 L st := g_putf (i := 112) (by decide +kernel) (by decide +kernel) (Or.inl (by decide)) (by decide)
theorem i116_124 : m_G 116 124 [.ref a0, v1, v2] st μ = m_G 116 125 [.ref a0, v1, v2] (.ref a0 :: st) μ := g_aload_n (i := 0) (by decide +kernel) rfl
theorem i116_125 : m_G 116 125 L (.ref a0 :: st) μ = b_v (m_gf μ a0 9 17) 116 128 L st μ := g_getf (i := 151) (by decide +kernel) (by decide +kernel)
theorem i116_128 : m_G 116 128 L st μ = m_G 116 129 L (.int 1 :: st) μ := g_iconst (n := 1) (by decide +kernel) (by decide)
theorem i116_129 : m_G 116 129 L (.int x1 :: .int x0 :: st) μ = m_G 116 130 L (.int (x0 - x1) :: st) μ := g_isub (by decide +kernel)
theorem i116_130 : m_G 116 130 L [.int x0] μ = some (some (.int x0), μ) := g_ireti (by decide +kernel) (by decide)
theorem D116 : m_D 116 [.ref a0, .int x0] μ = m_G 116 0 [.ref a0, .int x0, m_d] [] μ := d_def (by decide) rfl
theorem i117_0 : m_G 117 0 [v0, .int x0] st μ = m_G 117 1 [v0, .int x0] (.int x0 :: st) μ := g_iload_n (i := 1) (by decide +kernel) rfl
theorem i117_1 : m_G 117 1 L (.int x0 :: st) μ = m_G 117 2 L (.long x0.toInt64 :: st) μ := g_i2l (by decide +kernel)
theorem i117_2 : m_G 117 2 L st μ = m_G 117 3 L (.long 0 :: st) μ := g_lconst (n := 0) (by decide +kernel) (by decide)
theorem i117_3 : m_G 117 3 [.ref a0, v1] st μ = m_G 117 4 [.ref a0, v1] (.ref a0 :: st) μ := g_aload_n (i := 0) (by decide +kernel) rfl
theorem i117_4 : m_G 117 4 L (.ref a0 :: st) μ = b_v (m_gf μ a0 9 17) 117 7 L st μ := g_getf (i := 151) (by decide +kernel) (by decide +kernel)
theorem i117_7 : m_G 117 7 L st μ = m_G 117 8 L (.int 1 :: st) μ := g_iconst (n := 1) (by decide +kernel) (by decide)
theorem i117_8 : m_G 117 8 L (.int x1 :: .int x0 :: st) μ = m_G 117 9 L (.int (x0 - x1) :: st) μ := g_isub (by decide +kernel)
theorem i117_9 : m_G 117 9 L (.int x0 :: st) μ = m_G 117 10 L (.long x0.toInt64 :: st) μ := g_i2l (by decide +kernel)
theorem i117_10 : m_G 117 10 L (.long l2 :: .long l1 :: .long l0 :: []) μ = b_c (m_D 102 [.long l0, .long l1, .long l2] μ) 117 13 L [] := g_stat (i := 102) (n := 3) (by decide +kernel) (by decide +kernel) (by decide) (x_call_ok (ws := [2, 2, 2]) (Nat.le_of_ble_eq_true rfl) rfl (by decide +kernel) rfl (by decide +kernel) rfl rfl)
theorem i117_13 (h : x0 &&& 1 = x0) : m_G 117 13 L [.int x0] μ = some (some (.int x0), μ) := g_iretz (by decide +kernel) (by decide) h
theorem D117 : m_D 117 [.ref a0, .int x0] μ = m_G 117 0 [.ref a0, .int x0] [] μ := d_def (by decide) rfl
theorem i118_0 : m_G 118 0 [.ref a0, v1, v2, v3] st μ = m_G 118 1 [.ref a0, v1, v2, v3] (.ref a0 :: st) μ := g_aload_n (i := 0) (by decide +kernel) rfl
theorem i118_1 : m_G 118 1 [v0, .int x0, v2, v3] st μ = m_G 118 2 [v0, .int x0, v2, v3] (.int x0 :: st) μ := g_iload_n (i := 1) (by decide +kernel) rfl
theorem i118_2 (ho : m_oc μ a0 = some 9) : m_G 118 2 L (.int x0 :: .ref a0 :: []) μ = b_c (m_D 117 [.ref a0, .int x0] μ) 118 5 L [] := g_virt (i := 154) (n := 1) (a := a0) (c := 9) (l := [(9, 117)]) (by decide +kernel) (by decide +kernel) rfl rfl (x_call_ok (ws := [1, 1]) (Nat.le_of_ble_eq_true rfl) rfl (by decide +kernel) rfl (by decide +kernel) rfl rfl) ho
theorem i118_5 : m_G 118 5 L (.int x0 :: st) μ = if x0 = 0 then m_G 118 8 L st μ else m_G 118 11 L st μ := g_ifne (off := 6) (by decide +kernel) (by decide)
theorem i118_8 : m_G 118 8 L st μ = m_G 118 10 L (.int (-101) :: st) μ := g_bipush (n := -101) (by decide +kernel) (by decide)
theorem i118_10 : m_G 118 10 L [.int x0] μ = some (some (.int x0), μ) := g_ireti (by decide +kernel) (by decide)
theorem i118_11 : m_G 118 11 [v0, v1, .int x0, v3] st μ = m_G 118 12 [v0, v1, .int x0, v3] (.int x0 :: st) μ := g_iload_n (i := 2) (by decide +kernel) rfl
theorem i118_12 : m_G 118 12 L (.int x0 :: st) μ = m_G 118 13 L (.long x0.toInt64 :: st) μ := g_i2l (by decide +kernel)
theorem i118_13 : m_G 118 13 L st μ = m_G 118 14 L (.long 0 :: st) μ := g_lconst (n := 0) (by decide +kernel) (by decide)
theorem i118_14 : m_G 118 14 L st μ = m_G 118 17 L (.long (5) :: st) μ := g_ldc2_w (i := 149) (by decide +kernel) (by decide +kernel)
theorem i118_17 : m_G 118 17 L (.long l2 :: .long l1 :: .long l0 :: []) μ = b_c (m_D 102 [.long l0, .long l1, .long l2] μ) 118 20 L [] := g_stat (i := 102) (n := 3) (by decide +kernel) (by decide +kernel) (by decide) (x_call_ok (ws := [2, 2, 2]) (Nat.le_of_ble_eq_true rfl) rfl (by decide +kernel) rfl (by decide +kernel) rfl rfl)
theorem i118_20 : m_G 118 20 L (.int x0 :: st) μ = if x0 = 0 then m_G 118 23 L st μ else m_G 118 26 L st μ := g_ifne (off := 6) (by decide +kernel) (by decide)
theorem i118_23 : m_G 118 23 L st μ = m_G 118 25 L (.int (-102) :: st) μ := g_bipush (n := -102) (by decide +kernel) (by decide)
theorem i118_25 : m_G 118 25 L [.int x0] μ = some (some (.int x0), μ) := g_ireti (by decide +kernel) (by decide)
theorem i118_26 : m_G 118 26 [v0, v1, .int x0, v3] st μ = m_G 118 27 [v0, v1, .int x0, v3] (.int x0 :: st) μ := g_iload_n (i := 2) (by decide +kernel) rfl
theorem i118_27 : m_G 118 27 L (.int x0 :: st) μ = if x0 = 0 then m_G 118 55 L st μ else m_G 118 30 L st μ := g_ifeq (off := 28) (by decide +kernel) (by decide)
theorem i118_30 : m_G 118 30 [v0, v1, .int x0, v3] st μ = m_G 118 31 [v0, v1, .int x0, v3] (.int x0 :: st) μ := g_iload_n (i := 2) (by decide +kernel) rfl
theorem i118_31 : m_G 118 31 [.ref a0, v1, v2, v3] st μ = m_G 118 32 [.ref a0, v1, v2, v3] (.ref a0 :: st) μ := g_aload_n (i := 0) (by decide +kernel) rfl
theorem i118_32 : m_G 118 32 L (.ref a0 :: st) μ = b_v (m_gf μ a0 9 18) 118 35 L st μ := g_getf (i := 44) (by decide +kernel) (by decide +kernel)
theorem i118_35 : m_G 118 35 [v0, .int x0, v2, v3] st μ = m_G 118 36 [v0, .int x0, v2, v3] (.int x0 :: st) μ := g_iload_n (i := 1) (by decide +kernel) rfl
theorem i118_36 : m_G 118 36 L (.int x0 :: .ref a0 :: st) μ = b_i (m_ga μ a0 x0) 118 37 L st μ := g_iald (by decide +kernel)
theorem i118_37 : m_G 118 37 L (.int x1 :: .int x0 :: st) μ = if x0 = x1 then m_G 118 55 L st μ else m_G 118 40 L st μ := g_cmpeq (off := 18) (by decide +kernel) (by decide)
theorem i118_40 : m_G 118 40 [v0, v1, .int x0, v3] st μ = m_G 118 41 [v0, v1, .int x0, v3] (.int x0 :: st) μ := g_iload_n (i := 2) (by decide +kernel) rfl
theorem i118_41 : m_G 118 41 L st μ = m_G 118 42 L (.int 1 :: st) μ := g_iconst (n := 1) (by decide +kernel) (by decide)
theorem i118_42 : m_G 118 42 L (.int x1 :: .int x0 :: st) μ = if x0 = x1 then m_G 118 45 L st μ else m_G 118 59 L st μ := g_cmpne (off := 17) (by decide +kernel) (by decide)
theorem i118_45 : m_G 118 45 [.ref a0, v1, v2, v3] st μ = m_G 118 46 [.ref a0, v1, v2, v3] (.ref a0 :: st) μ := g_aload_n (i := 0) (by decide +kernel) rfl
theorem i118_46 : m_G 118 46 L (.ref a0 :: st) μ = b_v (m_gf μ a0 9 18) 118 49 L st μ := g_getf (i := 44) (by decide +kernel) (by decide +kernel)
theorem i118_49 : m_G 118 49 [v0, .int x0, v2, v3] st μ = m_G 118 50 [v0, .int x0, v2, v3] (.int x0 :: st) μ := g_iload_n (i := 1) (by decide +kernel) rfl
theorem i118_50 : m_G 118 50 L (.int x0 :: .ref a0 :: st) μ = b_i (m_ga μ a0 x0) 118 51 L st μ := g_iald (by decide +kernel)
theorem i118_51 : m_G 118 51 L st μ = m_G 118 52 L (.int 3 :: st) μ := g_iconst (n := 3) (by decide +kernel) (by decide)
theorem i118_52 : m_G 118 52 L (.int x1 :: .int x0 :: st) μ = if x1 < x0 then m_G 118 55 L st μ else m_G 118 59 L st μ := g_cmple (off := 7) (by decide +kernel) (by decide)
theorem i118_55 : m_G 118 55 L st μ = m_G 118 56 L (.int 1 :: st) μ := g_iconst (n := 1) (by decide +kernel) (by decide)
theorem i118_56 : m_G 118 56 L st μ = m_G 118 60 L st μ := g_goto (off := 4) (by decide +kernel) (by decide)
theorem i118_59 : m_G 118 59 L st μ = m_G 118 60 L (.int 0 :: st) μ := g_iconst (n := 0) (by decide +kernel) (by decide)
theorem i118_60 : m_G 118 60 [v0, v1, v2, v3] (.int x0 :: st) μ = m_G 118 61 [v0, v1, v2, .int x0] st μ := g_istore_n (i := 3) (by decide +kernel) (Nat.le_of_ble_eq_true rfl) rfl
theorem i118_61 : m_G 118 61 [v0, v1, v2, .int x0] st μ = m_G 118 62 [v0, v1, v2, .int x0] (.int x0 :: st) μ := g_iload_n (i := 3) (by decide +kernel) rfl
theorem i118_62 : m_G 118 62 L (.int x0 :: st) μ = if x0 = 0 then m_G 118 69 L st μ else m_G 118 65 L st μ := g_ifeq (off := 7) (by decide +kernel) (by decide)
theorem i118_65 : m_G 118 65 [v0, .int x0, v2, v3] st μ = m_G 118 66 [v0, .int x0, v2, v3] (.int x0 :: st) μ := g_iload_n (i := 1) (by decide +kernel) rfl
theorem i118_66 : m_G 118 66 L st μ = m_G 118 70 L st μ := g_goto (off := 4) (by decide +kernel) (by decide)
theorem i118_69 : m_G 118 69 L st μ = m_G 118 70 L (.int (-1) :: st) μ := g_iconst (n := -1) (by decide +kernel) (by decide)
theorem i118_70 : m_G 118 70 L [.int x0] μ = some (some (.int x0), μ) := g_ireti (by decide +kernel) (by decide)
theorem D118 : m_D 118 [.ref a0, .int x0, .int x1] μ = m_G 118 0 [.ref a0, .int x0, .int x1, m_d] [] μ := d_def (by decide) rfl
theorem i119_0 : m_G 119 0 L st μ = m_G 119 1 L (.int 0 :: st) μ := g_iconst (n := 0) (by decide +kernel) (by decide)
theorem i119_1 : m_G 119 1 [v0, v1, v2, v3, v4] (.int x0 :: st) μ = m_G 119 2 [v0, v1, v2, .int x0, v4] st μ := g_istore_n (i := 3) (by decide +kernel) (Nat.le_of_ble_eq_true rfl) rfl
theorem i119_2 : m_G 119 2 L st μ = m_G 119 3 L (.int 0 :: st) μ := g_iconst (n := 0) (by decide +kernel) (by decide)
theorem i119_3 : m_G 119 3 [v0, v1, v2, v3, v4] (.int x0 :: st) μ = m_G 119 5 [v0, v1, v2, v3, .int x0] st μ := g_istore (i := 4) (by decide +kernel) (Nat.le_of_ble_eq_true rfl) rfl
theorem i119_5 : m_G 119 5 [v0, v1, v2, v3, .int x0] st μ = m_G 119 7 [v0, v1, v2, v3, .int x0] (.int x0 :: st) μ := g_iload (i := 4) (by decide +kernel) rfl
theorem i119_7 : m_G 119 7 [.ref a0, v1, v2, v3, v4] st μ = m_G 119 8 [.ref a0, v1, v2, v3, v4] (.ref a0 :: st) μ := g_aload_n (i := 0) (by decide +kernel) rfl
theorem i119_8 : m_G 119 8 L (.ref a0 :: st) μ = b_v (m_gf μ a0 9 1) 119 11 L st μ := g_getf (i := 7) (by decide +kernel) (by decide +kernel)
theorem i119_11 : m_G 119 11 [v0, .int x0, v2, v3, v4] st μ = m_G 119 12 [v0, .int x0, v2, v3, v4] (.int x0 :: st) μ := g_iload_n (i := 1) (by decide +kernel) rfl
theorem i119_12 : m_G 119 12 L (.int x0 :: .ref a0 :: st) μ = b_i (m_ga μ a0 x0) 119 13 L st μ := g_iald (by decide +kernel)
theorem i119_13 : m_G 119 13 L (.int x1 :: .int x0 :: st) μ = if x0 < x1 then m_G 119 16 L st μ else m_G 119 46 L st μ := g_cmpge (off := 33) (by decide +kernel) (by decide)
theorem i119_16 : m_G 119 16 [v0, v1, v2, .int x0, v4] st μ = m_G 119 17 [v0, v1, v2, .int x0, v4] (.int x0 :: st) μ := g_iload_n (i := 3) (by decide +kernel) rfl
theorem i119_17 : m_G 119 17 [.ref a0, v1, v2, v3, v4] st μ = m_G 119 18 [.ref a0, v1, v2, v3, v4] (.ref a0 :: st) μ := g_aload_n (i := 0) (by decide +kernel) rfl
theorem i119_18 : m_G 119 18 L (.ref a0 :: st) μ = b_v (m_gf μ a0 9 4) 119 21 L st μ := g_getf (i := 19) (by decide +kernel) (by decide +kernel)
theorem i119_21 : m_G 119 21 L st μ = m_G 119 23 L (.int 24 :: st) μ := g_bipush (n := 24) (by decide +kernel) (by decide)
theorem i119_23 : m_G 119 23 [v0, .int x0, v2, v3, v4] st μ = m_G 119 24 [v0, .int x0, v2, v3, v4] (.int x0 :: st) μ := g_iload_n (i := 1) (by decide +kernel) rfl
theorem i119_24 : m_G 119 24 L (.int x1 :: .int x0 :: st) μ = m_G 119 25 L (.int (x0 * x1) :: st) μ := g_imul (by decide +kernel)
theorem i119_25 : m_G 119 25 [v0, v1, v2, v3, .int x0] st μ = m_G 119 27 [v0, v1, v2, v3, .int x0] (.int x0 :: st) μ := g_iload (i := 4) (by decide +kernel) rfl
theorem i119_27 : m_G 119 27 L (.int x1 :: .int x0 :: st) μ = m_G 119 28 L (.int (x0 + x1) :: st) μ := g_iadd (by decide +kernel)
theorem i119_28 : m_G 119 28 L (.int x0 :: .ref a0 :: st) μ = b_i (m_ga μ a0 x0) 119 29 L st μ := g_iald (by decide +kernel)
theorem i119_29 : m_G 119 29 [v0, v1, .int x0, v3, v4] st μ = m_G 119 30 [v0, v1, .int x0, v3, v4] (.int x0 :: st) μ := g_iload_n (i := 2) (by decide +kernel) rfl
theorem i119_30 : m_G 119 30 L (.int x1 :: .int x0 :: st) μ = if x0 = x1 then m_G 119 33 L st μ else m_G 119 37 L st μ := g_cmpne (off := 7) (by decide +kernel) (by decide)
theorem i119_33 : m_G 119 33 L st μ = m_G 119 34 L (.int 1 :: st) μ := g_iconst (n := 1) (by decide +kernel) (by decide)
theorem i119_34 : m_G 119 34 L st μ = m_G 119 38 L st μ := g_goto (off := 4) (by decide +kernel) (by decide)
theorem i119_37 : m_G 119 37 L st μ = m_G 119 38 L (.int 0 :: st) μ := g_iconst (n := 0) (by decide +kernel) (by decide)
theorem i119_38 : m_G 119 38 L (.int x1 :: .int x0 :: st) μ = m_G 119 39 L (.int (x0 + x1) :: st) μ := g_iadd (by decide +kernel)
theorem i119_39 : m_G 119 39 [v0, v1, v2, v3, v4] (.int x0 :: st) μ = m_G 119 40 [v0, v1, v2, .int x0, v4] st μ := g_istore_n (i := 3) (by decide +kernel) (Nat.le_of_ble_eq_true rfl) rfl
theorem i119_40 : m_G 119 40 [v0, v1, v2, v3, .int x0] st μ = m_G 119 43 [v0, v1, v2, v3, .int (x0 + 1)] st μ := g_iinc (i := 4) (n := 1) (by decide +kernel) rfl (by decide) rfl
theorem i119_43 : m_G 119 43 L st μ = m_G 119 5 L st μ := g_goto (off := -38) (by decide +kernel) (by decide)
theorem i119_46 : m_G 119 46 [v0, v1, v2, .int x0, v4] st μ = m_G 119 47 [v0, v1, v2, .int x0, v4] (.int x0 :: st) μ := g_iload_n (i := 3) (by decide +kernel) rfl
theorem i119_47 : m_G 119 47 L [.int x0] μ = some (some (.int x0), μ) := g_ireti (by decide +kernel) (by decide)
theorem D119 : m_D 119 [.ref a0, .int x0, .int x1] μ = m_G 119 0 [.ref a0, .int x0, .int x1, m_d, m_d] [] μ := d_def (by decide) rfl
theorem i120_0 : m_G 120 0 L st μ = m_G 120 1 L (.int 0 :: st) μ := g_iconst (n := 0) (by decide +kernel) (by decide)
theorem i120_1 : m_G 120 1 [v0, v1, v2, v3, v4] (.int x0 :: st) μ = m_G 120 2 [v0, v1, v2, .int x0, v4] st μ := g_istore_n (i := 3) (by decide +kernel) (Nat.le_of_ble_eq_true rfl) rfl
theorem i120_2 : m_G 120 2 [.ref a0, v1, v2, v3, v4] st μ = m_G 120 3 [.ref a0, v1, v2, v3, v4] (.ref a0 :: st) μ := g_aload_n (i := 0) (by decide +kernel) rfl
theorem i120_3 : m_G 120 3 L (.ref a0 :: st) μ = b_v (m_gf μ a0 9 4) 120 6 L st μ := g_getf (i := 19) (by decide +kernel) (by decide +kernel)
theorem i120_6 : m_G 120 6 L st μ = m_G 120 8 L (.int 24 :: st) μ := g_bipush (n := 24) (by decide +kernel) (by decide)
theorem i120_8 : m_G 120 8 [v0, .int x0, v2, v3, v4] st μ = m_G 120 9 [v0, .int x0, v2, v3, v4] (.int x0 :: st) μ := g_iload_n (i := 1) (by decide +kernel) rfl
theorem i120_9 : m_G 120 9 L (.int x1 :: .int x0 :: st) μ = m_G 120 10 L (.int (x0 * x1) :: st) μ := g_imul (by decide +kernel)
theorem i120_10 : m_G 120 10 [v0, v1, .int x0, v3, v4] st μ = m_G 120 11 [v0, v1, .int x0, v3, v4] (.int x0 :: st) μ := g_iload_n (i := 2) (by decide +kernel) rfl
theorem i120_11 : m_G 120 11 L (.int x1 :: .int x0 :: st) μ = m_G 120 12 L (.int (x0 + x1) :: st) μ := g_iadd (by decide +kernel)
theorem i120_12 : m_G 120 12 L (.int x0 :: .ref a0 :: st) μ = b_i (m_ga μ a0 x0) 120 13 L st μ := g_iald (by decide +kernel)
theorem i120_13 : m_G 120 13 [v0, v1, v2, v3, v4] (.int x0 :: st) μ = m_G 120 15 [v0, v1, v2, v3, .int x0] st μ := g_istore (i := 4) (by decide +kernel) (Nat.le_of_ble_eq_true rfl) rfl
theorem i120_15 : m_G 120 15 [v0, v1, v2, v3, .int x0] st μ = m_G 120 17 [v0, v1, v2, v3, .int x0] (.int x0 :: st) μ := g_iload (i := 4) (by decide +kernel) rfl
theorem i120_17 : m_G 120 17 L st μ = m_G 120 18 L (.int (-1) :: st) μ := g_iconst (n := -1) (by decide +kernel) (by decide)
theorem i120_18 : m_G 120 18 L (.int x1 :: .int x0 :: st) μ = if x0 = x1 then m_G 120 41 L st μ else m_G 120 21 L st μ := g_cmpeq (off := 23) (by decide +kernel) (by decide)
theorem i120_21 : m_G 120 21 [.ref a0, v1, v2, v3, v4] st μ = m_G 120 22 [.ref a0, v1, v2, v3, v4] (.ref a0 :: st) μ := g_aload_n (i := 0) (by decide +kernel) rfl
theorem i120_22 : m_G 120 22 L (.ref a0 :: st) μ = b_v (m_gf μ a0 9 4) 120 25 L st μ := g_getf (i := 19) (by decide +kernel) (by decide +kernel)
theorem i120_25 : m_G 120 25 L st μ = m_G 120 27 L (.int 24 :: st) μ := g_bipush (n := 24) (by decide +kernel) (by decide)
theorem i120_27 : m_G 120 27 [v0, .int x0, v2, v3, v4] st μ = m_G 120 28 [v0, .int x0, v2, v3, v4] (.int x0 :: st) μ := g_iload_n (i := 1) (by decide +kernel) rfl
theorem i120_28 : m_G 120 28 L (.int x1 :: .int x0 :: st) μ = m_G 120 29 L (.int (x0 * x1) :: st) μ := g_imul (by decide +kernel)
theorem i120_29 : m_G 120 29 [v0, v1, v2, v3, .int x0] st μ = m_G 120 31 [v0, v1, v2, v3, .int x0] (.int x0 :: st) μ := g_iload (i := 4) (by decide +kernel) rfl
theorem i120_31 : m_G 120 31 L (.int x1 :: .int x0 :: st) μ = m_G 120 32 L (.int (x0 + x1) :: st) μ := g_iadd (by decide +kernel)
theorem i120_32 : m_G 120 32 L (.int x0 :: .ref a0 :: st) μ = b_i (m_ga μ a0 x0) 120 33 L st μ := g_iald (by decide +kernel)
theorem i120_33 : m_G 120 33 [v0, v1, v2, v3, v4] (.int x0 :: st) μ = m_G 120 35 [v0, v1, v2, v3, .int x0] st μ := g_istore (i := 4) (by decide +kernel) (Nat.le_of_ble_eq_true rfl) rfl
theorem i120_35 : m_G 120 35 [v0, v1, v2, .int x0, v4] st μ = m_G 120 38 [v0, v1, v2, .int (x0 + 1), v4] st μ := g_iinc (i := 3) (n := 1) (by decide +kernel) rfl (by decide) rfl
theorem i120_38 : m_G 120 38 L st μ = m_G 120 15 L st μ := g_goto (off := -23) (by decide +kernel) (by decide)
theorem i120_41 : m_G 120 41 [v0, v1, v2, .int x0, v4] st μ = m_G 120 42 [v0, v1, v2, .int x0, v4] (.int x0 :: st) μ := g_iload_n (i := 3) (by decide +kernel) rfl
theorem i120_42 : m_G 120 42 L [.int x0] μ = some (some (.int x0), μ) := g_ireti (by decide +kernel) (by decide)
theorem D120 : m_D 120 [.ref a0, .int x0, .int x1] μ = m_G 120 0 [.ref a0, .int x0, .int x1, m_d, m_d] [] μ := d_def (by decide) rfl
theorem i121_0 : m_G 121 0 [v0, v1, v2, .int x0] st μ = m_G 121 1 [v0, v1, v2, .int x0] (.int x0 :: st) μ := g_iload_n (i := 3) (by decide +kernel) rfl
theorem i121_1_0 : m_G 121 1 L (.int 0 :: st) μ = m_G 121 36 L st μ := g_tab (dd := 85) (lo := 0) (hi := 4) (offs := #[35, 47, 59, 71, 78]) (len := 35) (off := 35) (by decide +kernel) (by decide) (by decide) (by decide)
theorem i121_1_1 : m_G 121 1 L (.int 1 :: st) μ = m_G 121 48 L st μ := g_tab (dd := 85) (lo := 0) (hi := 4) (offs := #[35, 47, 59, 71, 78]) (len := 35) (off := 47) (by decide +kernel) (by decide) (by decide) (by decide)
theorem i121_1_2 : m_G 121 1 L (.int 2 :: st) μ = m_G 121 60 L st μ := g_tab (dd := 85) (lo := 0) (hi := 4) (offs := #[35, 47, 59, 71, 78]) (len := 35) (off := 59) (by decide +kernel) (by decide) (by decide) (by decide)
theorem i121_1_3 : m_G 121 1 L (.int 3 :: st) μ = m_G 121 72 L st μ := g_tab (dd := 85) (lo := 0) (hi := 4) (offs := #[35, 47, 59, 71, 78]) (len := 35) (off := 71) (by decide +kernel) (by decide) (by decide) (by decide)
theorem i121_1_4 : m_G 121 1 L (.int 4 :: st) μ = m_G 121 79 L st μ := g_tab (dd := 85) (lo := 0) (hi := 4) (offs := #[35, 47, 59, 71, 78]) (len := 35) (off := 78) (by decide +kernel) (by decide) (by decide) (by decide)
theorem i121_1_d (h : x0.toInt < 0 ∨ 4 < x0.toInt) : m_G 121 1 L (.int x0 :: st) μ = m_G 121 86 L st μ := g_tabO (dd := 85) (lo := 0) (hi := 4) (offs := #[35, 47, 59, 71, 78]) (len := 35) (by decide +kernel) h (by decide)
theorem i121_36 : m_G 121 36 [.ref a0, v1, v2, v3] st μ = m_G 121 37 [.ref a0, v1, v2, v3] (.ref a0 :: st) μ := g_aload_n (i := 0) (by decide +kernel) rfl
theorem i121_37 : m_G 121 37 L (.ref a0 :: st) μ = b_v (m_gf μ a0 9 2) 121 40 L st μ := g_getf (i := 13) (by decide +kernel) (by decide +kernel)
theorem i121_40 : m_G 121 40 L st μ = m_G 121 42 L (.int 24 :: st) μ := g_bipush (n := 24) (by decide +kernel) (by decide)
theorem i121_42 : m_G 121 42 [v0, .int x0, v2, v3] st μ = m_G 121 43 [v0, .int x0, v2, v3] (.int x0 :: st) μ := g_iload_n (i := 1) (by decide +kernel) rfl
theorem i121_43 : m_G 121 43 L (.int x1 :: .int x0 :: st) μ = m_G 121 44 L (.int (x0 * x1) :: st) μ := g_imul (by decide +kernel)
theorem i121_44 : m_G 121 44 [v0, v1, .int x0, v3] st μ = m_G 121 45 [v0, v1, .int x0, v3] (.int x0 :: st) μ := g_iload_n (i := 2) (by decide +kernel) rfl
theorem i121_45 : m_G 121 45 L (.int x1 :: .int x0 :: st) μ = m_G 121 46 L (.int (x0 + x1) :: st) μ := g_iadd (by decide +kernel)
theorem i121_46 : m_G 121 46 L (.int x0 :: .ref a0 :: st) μ = b_i (m_ga μ a0 x0) 121 47 L st μ := g_iald (by decide +kernel)
theorem i121_47 : m_G 121 47 L [.int x0] μ = some (some (.int x0), μ) := g_ireti (by decide +kernel) (by decide)
theorem i121_48 : m_G 121 48 [.ref a0, v1, v2, v3] st μ = m_G 121 49 [.ref a0, v1, v2, v3] (.ref a0 :: st) μ := g_aload_n (i := 0) (by decide +kernel) rfl
theorem i121_49 : m_G 121 49 L (.ref a0 :: st) μ = b_v (m_gf μ a0 9 3) 121 52 L st μ := g_getf (i := 16) (by decide +kernel) (by decide +kernel)
theorem i121_52 : m_G 121 52 L st μ = m_G 121 54 L (.int 24 :: st) μ := g_bipush (n := 24) (by decide +kernel) (by decide)
theorem i121_54 : m_G 121 54 [v0, .int x0, v2, v3] st μ = m_G 121 55 [v0, .int x0, v2, v3] (.int x0 :: st) μ := g_iload_n (i := 1) (by decide +kernel) rfl
theorem i121_55 : m_G 121 55 L (.int x1 :: .int x0 :: st) μ = m_G 121 56 L (.int (x0 * x1) :: st) μ := g_imul (by decide +kernel)
theorem i121_56 : m_G 121 56 [v0, v1, .int x0, v3] st μ = m_G 121 57 [v0, v1, .int x0, v3] (.int x0 :: st) μ := g_iload_n (i := 2) (by decide +kernel) rfl
theorem i121_57 : m_G 121 57 L (.int x1 :: .int x0 :: st) μ = m_G 121 58 L (.int (x0 + x1) :: st) μ := g_iadd (by decide +kernel)
theorem i121_58 : m_G 121 58 L (.int x0 :: .ref a0 :: st) μ = b_i (m_ga μ a0 x0) 121 59 L st μ := g_iald (by decide +kernel)
theorem i121_59 : m_G 121 59 L [.int x0] μ = some (some (.int x0), μ) := g_ireti (by decide +kernel) (by decide)
theorem i121_60 : m_G 121 60 [.ref a0, v1, v2, v3] st μ = m_G 121 61 [.ref a0, v1, v2, v3] (.ref a0 :: st) μ := g_aload_n (i := 0) (by decide +kernel) rfl
theorem i121_61 : m_G 121 61 L (.ref a0 :: st) μ = b_v (m_gf μ a0 9 4) 121 64 L st μ := g_getf (i := 19) (by decide +kernel) (by decide +kernel)
theorem i121_64 : m_G 121 64 L st μ = m_G 121 66 L (.int 24 :: st) μ := g_bipush (n := 24) (by decide +kernel) (by decide)
theorem i121_66 : m_G 121 66 [v0, .int x0, v2, v3] st μ = m_G 121 67 [v0, .int x0, v2, v3] (.int x0 :: st) μ := g_iload_n (i := 1) (by decide +kernel) rfl
theorem i121_67 : m_G 121 67 L (.int x1 :: .int x0 :: st) μ = m_G 121 68 L (.int (x0 * x1) :: st) μ := g_imul (by decide +kernel)
theorem i121_68 : m_G 121 68 [v0, v1, .int x0, v3] st μ = m_G 121 69 [v0, v1, .int x0, v3] (.int x0 :: st) μ := g_iload_n (i := 2) (by decide +kernel) rfl
theorem i121_69 : m_G 121 69 L (.int x1 :: .int x0 :: st) μ = m_G 121 70 L (.int (x0 + x1) :: st) μ := g_iadd (by decide +kernel)
theorem i121_70 : m_G 121 70 L (.int x0 :: .ref a0 :: st) μ = b_i (m_ga μ a0 x0) 121 71 L st μ := g_iald (by decide +kernel)
theorem i121_71 : m_G 121 71 L [.int x0] μ = some (some (.int x0), μ) := g_ireti (by decide +kernel) (by decide)
theorem i121_72 : m_G 121 72 [.ref a0, v1, v2, v3] st μ = m_G 121 73 [.ref a0, v1, v2, v3] (.ref a0 :: st) μ := g_aload_n (i := 0) (by decide +kernel) rfl
theorem i121_73 : m_G 121 73 [v0, .int x0, v2, v3] st μ = m_G 121 74 [v0, .int x0, v2, v3] (.int x0 :: st) μ := g_iload_n (i := 1) (by decide +kernel) rfl
theorem i121_74 : m_G 121 74 [v0, v1, .int x0, v3] st μ = m_G 121 75 [v0, v1, .int x0, v3] (.int x0 :: st) μ := g_iload_n (i := 2) (by decide +kernel) rfl
theorem i121_75 (ho : m_oc μ a0 = some 9) : m_G 121 75 L (.int x1 :: .int x0 :: .ref a0 :: []) μ = b_c (m_D 119 [.ref a0, .int x0, .int x1] μ) 121 78 L [] := g_virt (i := 157) (n := 2) (a := a0) (c := 9) (l := [(9, 119)]) (by decide +kernel) (by decide +kernel) rfl rfl (x_call_ok (ws := [1, 1, 1]) (Nat.le_of_ble_eq_true rfl) rfl (by decide +kernel) rfl (by decide +kernel) rfl rfl) ho
theorem i121_78 : m_G 121 78 L [.int x0] μ = some (some (.int x0), μ) := g_ireti (by decide +kernel) (by decide)
theorem i121_79 : m_G 121 79 [.ref a0, v1, v2, v3] st μ = m_G 121 80 [.ref a0, v1, v2, v3] (.ref a0 :: st) μ := g_aload_n (i := 0) (by decide +kernel) rfl
theorem i121_80 : m_G 121 80 [v0, .int x0, v2, v3] st μ = m_G 121 81 [v0, .int x0, v2, v3] (.int x0 :: st) μ := g_iload_n (i := 1) (by decide +kernel) rfl
theorem i121_81 : m_G 121 81 [v0, v1, .int x0, v3] st μ = m_G 121 82 [v0, v1, .int x0, v3] (.int x0 :: st) μ := g_iload_n (i := 2) (by decide +kernel) rfl
theorem i121_82 (ho : m_oc μ a0 = some 9) : m_G 121 82 L (.int x1 :: .int x0 :: .ref a0 :: []) μ = b_c (m_D 120 [.ref a0, .int x0, .int x1] μ) 121 85 L [] := g_virt (i := 161) (n := 2) (a := a0) (c := 9) (l := [(9, 120)]) (by decide +kernel) (by decide +kernel) rfl rfl (x_call_ok (ws := [1, 1, 1]) (Nat.le_of_ble_eq_true rfl) rfl (by decide +kernel) rfl (by decide +kernel) rfl rfl) ho
theorem i121_85 : m_G 121 85 L [.int x0] μ = some (some (.int x0), μ) := g_ireti (by decide +kernel) (by decide)
theorem i121_86 : m_G 121 86 L st μ = m_G 121 88 L (.int (-102) :: st) μ := g_bipush (n := -102) (by decide +kernel) (by decide)
theorem i121_88 : m_G 121 88 L [.int x0] μ = some (some (.int x0), μ) := g_ireti (by decide +kernel) (by decide)
theorem D121 : m_D 121 [.ref a0, .int x0, .int x1, .int x2] μ = m_G 121 0 [.ref a0, .int x0, .int x1, .int x2] [] μ := d_def (by decide) rfl
theorem i122_0 : m_G 122 0 [.ref a0, v1, v2, v3] st μ = m_G 122 1 [.ref a0, v1, v2, v3] (.ref a0 :: st) μ := g_aload_n (i := 0) (by decide +kernel) rfl
theorem i122_1 : m_G 122 1 [v0, .int x0, v2, v3] st μ = m_G 122 2 [v0, .int x0, v2, v3] (.int x0 :: st) μ := g_iload_n (i := 1) (by decide +kernel) rfl
theorem i122_2 : m_G 122 2 [v0, v1, .int x0, v3] st μ = m_G 122 3 [v0, v1, .int x0, v3] (.int x0 :: st) μ := g_iload_n (i := 2) (by decide +kernel) rfl
theorem i122_3 (ho : m_oc μ a0 = some 9) : m_G 122 3 L (.int x1 :: .int x0 :: .ref a0 :: []) μ = b_c (m_D 106 [.ref a0, .int x0, .int x1] μ) 122 6 L [] := g_virt (i := 164) (n := 2) (a := a0) (c := 9) (l := [(9, 106)]) (by decide +kernel) (by decide +kernel) rfl rfl (x_call_ok (ws := [1, 1, 1]) (Nat.le_of_ble_eq_true rfl) rfl (by decide +kernel) rfl (by decide +kernel) rfl rfl) ho
theorem i122_6 : m_G 122 6 L (.int x0 :: st) μ = if x0 = 0 then m_G 122 19 L st μ else m_G 122 9 L st μ := g_ifeq (off := 13) (by decide +kernel) (by decide)
theorem i122_9 : m_G 122 9 [.ref a0, v1, v2, v3] st μ = m_G 122 10 [.ref a0, v1, v2, v3] (.ref a0 :: st) μ := g_aload_n (i := 0) (by decide +kernel) rfl
theorem i122_10 : m_G 122 10 [v0, .int x0, v2, v3] st μ = m_G 122 11 [v0, .int x0, v2, v3] (.int x0 :: st) μ := g_iload_n (i := 1) (by decide +kernel) rfl
theorem i122_11 : m_G 122 11 [v0, v1, .int x0, v3] st μ = m_G 122 12 [v0, v1, .int x0, v3] (.int x0 :: st) μ := g_iload_n (i := 2) (by decide +kernel) rfl
theorem i122_12 : m_G 122 12 [v0, v1, v2, .int x0] st μ = m_G 122 13 [v0, v1, v2, .int x0] (.int x0 :: st) μ := g_iload_n (i := 3) (by decide +kernel) rfl
theorem i122_13 (ho : m_oc μ a0 = some 9) : m_G 122 13 L (.int x2 :: .int x1 :: .int x0 :: .ref a0 :: []) μ = b_c (m_D 121 [.ref a0, .int x0, .int x1, .int x2] μ) 122 16 L [] := g_virt (i := 168) (n := 3) (a := a0) (c := 9) (l := [(9, 121)]) (by decide +kernel) (by decide +kernel) rfl rfl (x_call_ok (ws := [1, 1, 1, 1]) (Nat.le_of_ble_eq_true rfl) rfl (by decide +kernel) rfl (by decide +kernel) rfl rfl) ho
theorem i122_16 : m_G 122 16 L st μ = m_G 122 21 L st μ := g_goto (off := 5) (by decide +kernel) (by decide)
theorem i122_19 : m_G 122 19 L st μ = m_G 122 21 L (.int (-101) :: st) μ := g_bipush (n := -101) (by decide +kernel) (by decide)
theorem i122_21 : m_G 122 21 L [.int x0] μ = some (some (.int x0), μ) := g_ireti (by decide +kernel) (by decide)
theorem D122 : m_D 122 [.ref a0, .int x0, .int x1, .int x2] μ = m_G 122 0 [.ref a0, .int x0, .int x1, .int x2] [] μ := d_def (by decide) rfl
theorem i123_0 : m_G 123 0 L st μ = m_G 123 1 L (.int 0 :: st) μ := g_iconst (n := 0) (by decide +kernel) (by decide)
theorem i123_1 : m_G 123 1 [v0, v1, v2, v3, v4, v5, v6, v7, v8, v9] (.int x0 :: st) μ = m_G 123 3 [v0, v1, v2, v3, .int x0, v5, v6, v7, v8, v9] st μ := g_istore (i := 4) (by decide +kernel) (Nat.le_of_ble_eq_true rfl) rfl
theorem i123_3 : m_G 123 3 [v0, v1, .int x0, v3, v4, v5, v6, v7, v8, v9] st μ = m_G 123 4 [v0, v1, .int x0, v3, v4, v5, v6, v7, v8, v9] (.int x0 :: st) μ := g_iload_n (i := 2) (by decide +kernel) rfl
theorem i123_4 : m_G 123 4 [v0, v1, v2, v3, v4, v5, v6, v7, v8, v9] (.int x0 :: st) μ = m_G 123 6 [v0, v1, v2, v3, v4, .int x0, v6, v7, v8, v9] st μ := g_istore (i := 5) (by decide +kernel) (Nat.le_of_ble_eq_true rfl) rfl
theorem i123_6 : m_G 123 6 L st μ = m_G 123 7 L (.int 0 :: st) μ := g_iconst (n := 0) (by decide +kernel) (by decide)
theorem i123_7 : m_G 123 7 [v0, v1, v2, v3, v4, v5, v6, v7, v8, v9] (.int x0 :: st) μ = m_G 123 9 [v0, v1, v2, v3, v4, v5, .int x0, v7, v8, v9] st μ := g_istore (i := 6) (by decide +kernel) (Nat.le_of_ble_eq_true rfl) rfl
theorem i123_9 : m_G 123 9 [v0, v1, v2, v3, v4, v5, .int x0, v7, v8, v9] st μ = m_G 123 11 [v0, v1, v2, v3, v4, v5, .int x0, v7, v8, v9] (.int x0 :: st) μ := g_iload (i := 6) (by decide +kernel) rfl
theorem i123_11 : m_G 123 11 [.ref a0, v1, v2, v3, v4, v5, v6, v7, v8, v9] st μ = m_G 123 12 [.ref a0, v1, v2, v3, v4, v5, v6, v7, v8, v9] (.ref a0 :: st) μ := g_aload_n (i := 0) (by decide +kernel) rfl
theorem i123_12 : m_G 123 12 L (.ref a0 :: st) μ = b_v (m_gf μ a0 9 1) 123 15 L st μ := g_getf (i := 7) (by decide +kernel) (by decide +kernel)
theorem i123_15 : m_G 123 15 [v0, .int x0, v2, v3, v4, v5, v6, v7, v8, v9] st μ = m_G 123 16 [v0, .int x0, v2, v3, v4, v5, v6, v7, v8, v9] (.int x0 :: st) μ := g_iload_n (i := 1) (by decide +kernel) rfl
theorem i123_16 : m_G 123 16 L (.int x0 :: .ref a0 :: st) μ = b_i (m_ga μ a0 x0) 123 17 L st μ := g_iald (by decide +kernel)
theorem i123_17 : m_G 123 17 L (.int x1 :: .int x0 :: st) μ = if x0 < x1 then m_G 123 20 L st μ else m_G 123 261 L st μ := g_cmpge (off := 244) (by decide +kernel) (by decide)
theorem i123_20 : m_G 123 20 [.ref a0, v1, v2, v3, v4, v5, v6, v7, v8, v9] st μ = m_G 123 21 [.ref a0, v1, v2, v3, v4, v5, v6, v7, v8, v9] (.ref a0 :: st) μ := g_aload_n (i := 0) (by decide +kernel) rfl
theorem i123_21 : m_G 123 21 L (.ref a0 :: st) μ = b_v (m_gf μ a0 9 4) 123 24 L st μ := g_getf (i := 19) (by decide +kernel) (by decide +kernel)
theorem i123_24 : m_G 123 24 L st μ = m_G 123 26 L (.int 24 :: st) μ := g_bipush (n := 24) (by decide +kernel) (by decide)
theorem i123_26 : m_G 123 26 [v0, .int x0, v2, v3, v4, v5, v6, v7, v8, v9] st μ = m_G 123 27 [v0, .int x0, v2, v3, v4, v5, v6, v7, v8, v9] (.int x0 :: st) μ := g_iload_n (i := 1) (by decide +kernel) rfl
theorem i123_27 : m_G 123 27 L (.int x1 :: .int x0 :: st) μ = m_G 123 28 L (.int (x0 * x1) :: st) μ := g_imul (by decide +kernel)
theorem i123_28 : m_G 123 28 [v0, v1, v2, v3, v4, v5, .int x0, v7, v8, v9] st μ = m_G 123 30 [v0, v1, v2, v3, v4, v5, .int x0, v7, v8, v9] (.int x0 :: st) μ := g_iload (i := 6) (by decide +kernel) rfl
theorem i123_30 : m_G 123 30 L (.int x1 :: .int x0 :: st) μ = m_G 123 31 L (.int (x0 + x1) :: st) μ := g_iadd (by decide +kernel)
theorem i123_31 : m_G 123 31 L (.int x0 :: .ref a0 :: st) μ = b_i (m_ga μ a0 x0) 123 32 L st μ := g_iald (by decide +kernel)
theorem i123_32 : m_G 123 32 [v0, v1, v2, v3, v4, v5, v6, v7, v8, v9] (.int x0 :: st) μ = m_G 123 34 [v0, v1, v2, v3, v4, v5, v6, .int x0, v8, v9] st μ := g_istore (i := 7) (by decide +kernel) (Nat.le_of_ble_eq_true rfl) rfl
theorem i123_34 : m_G 123 34 [v0, v1, v2, v3, v4, v5, v6, .int x0, v8, v9] st μ = m_G 123 36 [v0, v1, v2, v3, v4, v5, v6, .int x0, v8, v9] (.int x0 :: st) μ := g_iload (i := 7) (by decide +kernel) rfl
theorem i123_36 : m_G 123 36 L st μ = m_G 123 37 L (.int (-1) :: st) μ := g_iconst (n := -1) (by decide +kernel) (by decide)
theorem i123_37 : m_G 123 37 L (.int x1 :: .int x0 :: st) μ = if x0 = x1 then m_G 123 53 L st μ else m_G 123 40 L st μ := g_cmpeq (off := 16) (by decide +kernel) (by decide)
theorem i123_40 : m_G 123 40 [v0, v1, .int x0, v3, v4, v5, v6, v7, v8, v9] st μ = m_G 123 41 [v0, v1, .int x0, v3, v4, v5, v6, v7, v8, v9] (.int x0 :: st) μ := g_iload_n (i := 2) (by decide +kernel) rfl
theorem i123_41 : m_G 123 41 [v0, v1, v2, v3, v4, v5, v6, .int x0, v8, v9] st μ = m_G 123 43 [v0, v1, v2, v3, v4, v5, v6, .int x0, v8, v9] (.int x0 :: st) μ := g_iload (i := 7) (by decide +kernel) rfl
theorem i123_43 : m_G 123 43 L (.int x1 :: .int x0 :: []) μ = b_c (m_D 104 [.int x0, .int x1] μ) 123 46 L [] := g_stat (i := 172) (n := 2) (by decide +kernel) (by decide +kernel) (by decide) (x_call_ok (ws := [1, 1]) (Nat.le_of_ble_eq_true rfl) rfl (by decide +kernel) rfl (by decide +kernel) rfl rfl)
theorem i123_46 : m_G 123 46 L (.int x0 :: st) μ = if x0 = 0 then m_G 123 53 L st μ else m_G 123 49 L st μ := g_ifeq (off := 7) (by decide +kernel) (by decide)
theorem i123_49 : m_G 123 49 L st μ = m_G 123 50 L (.int 1 :: st) μ := g_iconst (n := 1) (by decide +kernel) (by decide)
theorem i123_50 : m_G 123 50 L st μ = m_G 123 54 L st μ := g_goto (off := 4) (by decide +kernel) (by decide)
theorem i123_53 : m_G 123 53 L st μ = m_G 123 54 L (.int 0 :: st) μ := g_iconst (n := 0) (by decide +kernel) (by decide)
theorem i123_54 : m_G 123 54 [v0, v1, v2, v3, v4, v5, v6, v7, v8, v9] (.int x0 :: st) μ = m_G 123 56 [v0, v1, v2, v3, v4, v5, v6, v7, .int x0, v9] st μ := g_istore (i := 8) (by decide +kernel) (Nat.le_of_ble_eq_true rfl) rfl
theorem i123_56 : m_G 123 56 [v0, v1, v2, v3, v4, v5, v6, .int x0, v8, v9] st μ = m_G 123 58 [v0, v1, v2, v3, v4, v5, v6, .int x0, v8, v9] (.int x0 :: st) μ := g_iload (i := 7) (by decide +kernel) rfl
theorem i123_58 : m_G 123 58 L st μ = m_G 123 59 L (.int (-1) :: st) μ := g_iconst (n := -1) (by decide +kernel) (by decide)
theorem i123_59 : m_G 123 59 L (.int x1 :: .int x0 :: st) μ = if x0 = x1 then m_G 123 125 L st μ else m_G 123 62 L st μ := g_cmpeq (off := 66) (by decide +kernel) (by decide)
theorem i123_62 : m_G 123 62 [v0, v1, v2, v3, v4, .int x0, v6, v7, v8, v9] st μ = m_G 123 64 [v0, v1, v2, v3, v4, .int x0, v6, v7, v8, v9] (.int x0 :: st) μ := g_iload (i := 5) (by decide +kernel) rfl
theorem i123_64 : m_G 123 64 [v0, v1, v2, v3, v4, v5, v6, .int x0, v8, v9] st μ = m_G 123 66 [v0, v1, v2, v3, v4, v5, v6, .int x0, v8, v9] (.int x0 :: st) μ := g_iload (i := 7) (by decide +kernel) rfl
theorem i123_66 : m_G 123 66 L (.int x1 :: .int x0 :: []) μ = b_c (m_D 104 [.int x0, .int x1] μ) 123 69 L [] := g_stat (i := 172) (n := 2) (by decide +kernel) (by decide +kernel) (by decide) (x_call_ok (ws := [1, 1]) (Nat.le_of_ble_eq_true rfl) rfl (by decide +kernel) rfl (by decide +kernel) rfl rfl)
theorem i123_69 : m_G 123 69 L (.int x0 :: st) μ = if x0 = 0 then m_G 123 125 L st μ else m_G 123 72 L st μ := g_ifeq (off := 56) (by decide +kernel) (by decide)
theorem i123_72 : m_G 123 72 [v0, v1, v2, v3, .int x0, v5, v6, v7, v8, v9] st μ = m_G 123 74 [v0, v1, v2, v3, .int x0, v5, v6, v7, v8, v9] (.int x0 :: st) μ := g_iload (i := 4) (by decide +kernel) rfl
theorem i123_74 : m_G 123 74 [v0, v1, v2, .int x0, v4, v5, v6, v7, v8, v9] st μ = m_G 123 75 [v0, v1, v2, .int x0, v4, v5, v6, v7, v8, v9] (.int x0 :: st) μ := g_iload_n (i := 3) (by decide +kernel) rfl
theorem i123_75 : m_G 123 75 L st μ = m_G 123 77 L (.int 14 :: st) μ := g_bipush (n := 14) (by decide +kernel) (by decide)
theorem i123_77 : m_G 123 77 L (.int x1 :: .int x0 :: st) μ = if x1 < x0 then m_G 123 80 L st μ else m_G 123 112 L st μ := g_cmple (off := 35) (by decide +kernel) (by decide)
theorem i123_80 : m_G 123 80 [v0, v1, v2, .int x0, v4, v5, v6, v7, v8, v9] st μ = m_G 123 81 [v0, v1, v2, .int x0, v4, v5, v6, v7, v8, v9] (.int x0 :: st) μ := g_iload_n (i := 3) (by decide +kernel) rfl
theorem i123_81 : m_G 123 81 L st μ = m_G 123 83 L (.int 20 :: st) μ := g_bipush (n := 20) (by decide +kernel) (by decide)
theorem i123_83 : m_G 123 83 L (.int x1 :: .int x0 :: st) μ = if x0 < x1 then m_G 123 86 L st μ else m_G 123 112 L st μ := g_cmpge (off := 29) (by decide +kernel) (by decide)
theorem i123_86 : m_G 123 86 [.ref a0, v1, v2, v3, v4, v5, v6, v7, v8, v9] st μ = m_G 123 87 [.ref a0, v1, v2, v3, v4, v5, v6, v7, v8, v9] (.ref a0 :: st) μ := g_aload_n (i := 0) (by decide +kernel) rfl
theorem i123_87 : m_G 123 87 L (.ref a0 :: st) μ = b_v (m_gf μ a0 9 2) 123 90 L st μ := g_getf (i := 13) (by decide +kernel) (by decide +kernel)
theorem i123_90 : m_G 123 90 L st μ = m_G 123 92 L (.int 24 :: st) μ := g_bipush (n := 24) (by decide +kernel) (by decide)
theorem i123_92 : m_G 123 92 [v0, .int x0, v2, v3, v4, v5, v6, v7, v8, v9] st μ = m_G 123 93 [v0, .int x0, v2, v3, v4, v5, v6, v7, v8, v9] (.int x0 :: st) μ := g_iload_n (i := 1) (by decide +kernel) rfl
theorem i123_93 : m_G 123 93 L (.int x1 :: .int x0 :: st) μ = m_G 123 94 L (.int (x0 * x1) :: st) μ := g_imul (by decide +kernel)
theorem i123_94 : m_G 123 94 [v0, v1, v2, v3, v4, v5, .int x0, v7, v8, v9] st μ = m_G 123 96 [v0, v1, v2, v3, v4, v5, .int x0, v7, v8, v9] (.int x0 :: st) μ := g_iload (i := 6) (by decide +kernel) rfl
theorem i123_96 : m_G 123 96 L (.int x1 :: .int x0 :: st) μ = m_G 123 97 L (.int (x0 + x1) :: st) μ := g_iadd (by decide +kernel)
theorem i123_97 : m_G 123 97 L (.int x0 :: .ref a0 :: st) μ = b_i (m_ga μ a0 x0) 123 98 L st μ := g_iald (by decide +kernel)
theorem i123_98 : m_G 123 98 [v0, v1, v2, .int x0, v4, v5, v6, v7, v8, v9] st μ = m_G 123 99 [v0, v1, v2, .int x0, v4, v5, v6, v7, v8, v9] (.int x0 :: st) μ := g_iload_n (i := 3) (by decide +kernel) rfl
theorem i123_99 : m_G 123 99 L st μ = m_G 123 101 L (.int 15 :: st) μ := g_bipush (n := 15) (by decide +kernel) (by decide)
theorem i123_101 : m_G 123 101 L (.int x1 :: .int x0 :: st) μ = m_G 123 102 L (.int (x0 - x1) :: st) μ := g_isub (by decide +kernel)
theorem i123_102 : m_G 123 102 L (.int x1 :: .int x0 :: st) μ = if x0 = x1 then m_G 123 105 L st μ else m_G 123 112 L st μ := g_cmpne (off := 10) (by decide +kernel) (by decide)
theorem i123_105 : m_G 123 105 L st μ = m_G 123 106 L (.int 1 :: st) μ := g_iconst (n := 1) (by decide +kernel) (by decide)
theorem i123_106 : m_G 123 106 [v0, v1, v2, v3, v4, v5, .int x0, v7, v8, v9] st μ = m_G 123 108 [v0, v1, v2, v3, v4, v5, .int x0, v7, v8, v9] (.int x0 :: st) μ := g_iload (i := 6) (by decide +kernel) rfl
theorem i123_108 : m_G 123 108 L (.int x1 :: .int x0 :: st) μ = m_G 123 109 L (.int (x0 <<< (x1 &&& 31)) :: st) μ := g_ishl (by decide +kernel)
theorem i123_109 : m_G 123 109 L st μ = m_G 123 113 L st μ := g_goto (off := 4) (by decide +kernel) (by decide)
theorem i123_112 : m_G 123 112 L st μ = m_G 123 113 L (.int 0 :: st) μ := g_iconst (n := 0) (by decide +kernel) (by decide)
theorem i123_113 : m_G 123 113 L (.int x1 :: .int x0 :: st) μ = m_G 123 114 L (.int (x0 ||| x1) :: st) μ := g_ior (by decide +kernel)
theorem i123_114 : m_G 123 114 [v0, v1, v2, v3, v4, v5, v6, v7, v8, v9] (.int x0 :: st) μ = m_G 123 116 [v0, v1, v2, v3, .int x0, v5, v6, v7, v8, v9] st μ := g_istore (i := 4) (by decide +kernel) (Nat.le_of_ble_eq_true rfl) rfl
theorem i123_116 : m_G 123 116 [v0, v1, v2, v3, v4, .int x0, v6, v7, v8, v9] st μ = m_G 123 118 [v0, v1, v2, v3, v4, .int x0, v6, v7, v8, v9] (.int x0 :: st) μ := g_iload (i := 5) (by decide +kernel) rfl
theorem i123_118 : m_G 123 118 L st μ = m_G 123 119 L (.int 1 :: st) μ := g_iconst (n := 1) (by decide +kernel) (by decide)
theorem i123_119 : m_G 123 119 [v0, v1, v2, v3, v4, v5, .int x0, v7, v8, v9] st μ = m_G 123 121 [v0, v1, v2, v3, v4, v5, .int x0, v7, v8, v9] (.int x0 :: st) μ := g_iload (i := 6) (by decide +kernel) rfl
theorem i123_121 : m_G 123 121 L (.int x1 :: .int x0 :: st) μ = m_G 123 122 L (.int (x0 <<< (x1 &&& 31)) :: st) μ := g_ishl (by decide +kernel)
theorem i123_122 : m_G 123 122 L (.int x1 :: .int x0 :: st) μ = m_G 123 123 L (.int (x0 ||| x1) :: st) μ := g_ior (by decide +kernel)
theorem i123_123 : m_G 123 123 [v0, v1, v2, v3, v4, v5, v6, v7, v8, v9] (.int x0 :: st) μ = m_G 123 125 [v0, v1, v2, v3, v4, .int x0, v6, v7, v8, v9] st μ := g_istore (i := 5) (by decide +kernel) (Nat.le_of_ble_eq_true rfl) rfl
theorem i123_125 : m_G 123 125 [v0, v1, v2, v3, v4, v5, v6, v7, .int x0, v9] st μ = m_G 123 127 [v0, v1, v2, v3, v4, v5, v6, v7, .int x0, v9] (.int x0 :: st) μ := g_iload (i := 8) (by decide +kernel) rfl
theorem i123_127 : m_G 123 127 L (.int x0 :: st) μ = if x0 = 0 then m_G 123 164 L st μ else m_G 123 130 L st μ := g_ifeq (off := 37) (by decide +kernel) (by decide)
theorem i123_130 : m_G 123 130 [v0, v1, v2, .int x0, v4, v5, v6, v7, v8, v9] st μ = m_G 123 131 [v0, v1, v2, .int x0, v4, v5, v6, v7, v8, v9] (.int x0 :: st) μ := g_iload_n (i := 3) (by decide +kernel) rfl
theorem i123_131 : m_G 123 131 L st μ = m_G 123 132 L (.int 5 :: st) μ := g_iconst (n := 5) (by decide +kernel) (by decide)
theorem i123_132 : m_G 123 132 L (.int x1 :: .int x0 :: st) μ = if x0 < x1 then m_G 123 135 L st μ else m_G 123 164 L st μ := g_cmpge (off := 32) (by decide +kernel) (by decide)
theorem i123_135 : m_G 123 135 [v0, v1, v2, v3, .int x0, v5, v6, v7, v8, v9] st μ = m_G 123 137 [v0, v1, v2, v3, .int x0, v5, v6, v7, v8, v9] (.int x0 :: st) μ := g_iload (i := 4) (by decide +kernel) rfl
theorem i123_137 : m_G 123 137 [.ref a0, v1, v2, v3, v4, v5, v6, v7, v8, v9] st μ = m_G 123 138 [.ref a0, v1, v2, v3, v4, v5, v6, v7, v8, v9] (.ref a0 :: st) μ := g_aload_n (i := 0) (by decide +kernel) rfl
theorem i123_138 : m_G 123 138 L (.ref a0 :: st) μ = b_v (m_gf μ a0 9 2) 123 141 L st μ := g_getf (i := 13) (by decide +kernel) (by decide +kernel)
theorem i123_141 : m_G 123 141 L st μ = m_G 123 143 L (.int 24 :: st) μ := g_bipush (n := 24) (by decide +kernel) (by decide)
theorem i123_143 : m_G 123 143 [v0, .int x0, v2, v3, v4, v5, v6, v7, v8, v9] st μ = m_G 123 144 [v0, .int x0, v2, v3, v4, v5, v6, v7, v8, v9] (.int x0 :: st) μ := g_iload_n (i := 1) (by decide +kernel) rfl
theorem i123_144 : m_G 123 144 L (.int x1 :: .int x0 :: st) μ = m_G 123 145 L (.int (x0 * x1) :: st) μ := g_imul (by decide +kernel)
theorem i123_145 : m_G 123 145 [v0, v1, v2, v3, v4, v5, .int x0, v7, v8, v9] st μ = m_G 123 147 [v0, v1, v2, v3, v4, v5, .int x0, v7, v8, v9] (.int x0 :: st) μ := g_iload (i := 6) (by decide +kernel) rfl
theorem i123_147 : m_G 123 147 L (.int x1 :: .int x0 :: st) μ = m_G 123 148 L (.int (x0 + x1) :: st) μ := g_iadd (by decide +kernel)
theorem i123_148 : m_G 123 148 L (.int x0 :: .ref a0 :: st) μ = b_i (m_ga μ a0 x0) 123 149 L st μ := g_iald (by decide +kernel)
theorem i123_149 : m_G 123 149 [v0, v1, v2, .int x0, v4, v5, v6, v7, v8, v9] st μ = m_G 123 150 [v0, v1, v2, .int x0, v4, v5, v6, v7, v8, v9] (.int x0 :: st) μ := g_iload_n (i := 3) (by decide +kernel) rfl
theorem i123_150 : m_G 123 150 L (.int x1 :: .int x0 :: st) μ = if x0 = x1 then m_G 123 153 L st μ else m_G 123 160 L st μ := g_cmpne (off := 10) (by decide +kernel) (by decide)
theorem i123_153 : m_G 123 153 L st μ = m_G 123 154 L (.int 1 :: st) μ := g_iconst (n := 1) (by decide +kernel) (by decide)
theorem i123_154 : m_G 123 154 [v0, v1, v2, v3, v4, v5, .int x0, v7, v8, v9] st μ = m_G 123 156 [v0, v1, v2, v3, v4, v5, .int x0, v7, v8, v9] (.int x0 :: st) μ := g_iload (i := 6) (by decide +kernel) rfl
theorem i123_156 : m_G 123 156 L (.int x1 :: .int x0 :: st) μ = m_G 123 157 L (.int (x0 <<< (x1 &&& 31)) :: st) μ := g_ishl (by decide +kernel)
theorem i123_157 : m_G 123 157 L st μ = m_G 123 161 L st μ := g_goto (off := 4) (by decide +kernel) (by decide)
theorem i123_160 : m_G 123 160 L st μ = m_G 123 161 L (.int 0 :: st) μ := g_iconst (n := 0) (by decide +kernel) (by decide)
theorem i123_161 : m_G 123 161 L (.int x1 :: .int x0 :: st) μ = m_G 123 162 L (.int (x0 ||| x1) :: st) μ := g_ior (by decide +kernel)
theorem i123_162 : m_G 123 162 [v0, v1, v2, v3, v4, v5, v6, v7, v8, v9] (.int x0 :: st) μ = m_G 123 164 [v0, v1, v2, v3, .int x0, v5, v6, v7, v8, v9] st μ := g_istore (i := 4) (by decide +kernel) (Nat.le_of_ble_eq_true rfl) rfl
theorem i123_164 : m_G 123 164 [v0, v1, v2, v3, v4, v5, v6, v7, .int x0, v9] st μ = m_G 123 166 [v0, v1, v2, v3, v4, v5, v6, v7, .int x0, v9] (.int x0 :: st) μ := g_iload (i := 8) (by decide +kernel) rfl
theorem i123_166 : m_G 123 166 L (.int x0 :: st) μ = if x0 = 0 then m_G 123 206 L st μ else m_G 123 169 L st μ := g_ifeq (off := 40) (by decide +kernel) (by decide)
theorem i123_169 : m_G 123 169 [v0, v1, v2, .int x0, v4, v5, v6, v7, v8, v9] st μ = m_G 123 170 [v0, v1, v2, .int x0, v4, v5, v6, v7, v8, v9] (.int x0 :: st) μ := g_iload_n (i := 3) (by decide +kernel) rfl
theorem i123_170 : m_G 123 170 L st μ = m_G 123 171 L (.int 4 :: st) μ := g_iconst (n := 4) (by decide +kernel) (by decide)
theorem i123_171 : m_G 123 171 L (.int x1 :: .int x0 :: st) μ = if x1 < x0 then m_G 123 174 L st μ else m_G 123 206 L st μ := g_cmple (off := 35) (by decide +kernel) (by decide)
theorem i123_174 : m_G 123 174 [v0, v1, v2, .int x0, v4, v5, v6, v7, v8, v9] st μ = m_G 123 175 [v0, v1, v2, .int x0, v4, v5, v6, v7, v8, v9] (.int x0 :: st) μ := g_iload_n (i := 3) (by decide +kernel) rfl
theorem i123_175 : m_G 123 175 L st μ = m_G 123 177 L (.int 15 :: st) μ := g_bipush (n := 15) (by decide +kernel) (by decide)
theorem i123_177 : m_G 123 177 L (.int x1 :: .int x0 :: st) μ = if x0 < x1 then m_G 123 180 L st μ else m_G 123 206 L st μ := g_cmpge (off := 29) (by decide +kernel) (by decide)
theorem i123_180 : m_G 123 180 [v0, v1, v2, v3, .int x0, v5, v6, v7, v8, v9] st μ = m_G 123 182 [v0, v1, v2, v3, .int x0, v5, v6, v7, v8, v9] (.int x0 :: st) μ := g_iload (i := 4) (by decide +kernel) rfl
theorem i123_182 : m_G 123 182 [.ref a0, v1, v2, v3, v4, v5, v6, v7, v8, v9] st μ = m_G 123 183 [.ref a0, v1, v2, v3, v4, v5, v6, v7, v8, v9] (.ref a0 :: st) μ := g_aload_n (i := 0) (by decide +kernel) rfl
theorem i123_183 : m_G 123 183 [v0, .int x0, v2, v3, v4, v5, v6, v7, v8, v9] st μ = m_G 123 184 [v0, .int x0, v2, v3, v4, v5, v6, v7, v8, v9] (.int x0 :: st) μ := g_iload_n (i := 1) (by decide +kernel) rfl
theorem i123_184 : m_G 123 184 [v0, v1, v2, v3, v4, v5, .int x0, v7, v8, v9] st μ = m_G 123 186 [v0, v1, v2, v3, v4, v5, .int x0, v7, v8, v9] (.int x0 :: st) μ := g_iload (i := 6) (by decide +kernel) rfl
theorem i123_186 (ho : m_oc μ a0 = some 9) : m_G 123 186 L (.int x1 :: .int x0 :: .ref a0 :: [w0]) μ = b_c (m_D 124 [.ref a0, .int x0, .int x1] μ) 123 189 L [w0] := g_virt (i := 175) (n := 2) (a := a0) (c := 9) (l := [(9, 124)]) (by decide +kernel) (by decide +kernel) rfl rfl (x_call_ok (ws := [1, 1, 1]) (Nat.le_of_ble_eq_true rfl) rfl (by decide +kernel) rfl (by decide +kernel) rfl rfl) ho
theorem i123_189 : m_G 123 189 [v0, v1, v2, .int x0, v4, v5, v6, v7, v8, v9] st μ = m_G 123 190 [v0, v1, v2, .int x0, v4, v5, v6, v7, v8, v9] (.int x0 :: st) μ := g_iload_n (i := 3) (by decide +kernel) rfl
theorem i123_190 : m_G 123 190 L st μ = m_G 123 191 L (.int 5 :: st) μ := g_iconst (n := 5) (by decide +kernel) (by decide)
theorem i123_191 : m_G 123 191 L (.int x1 :: .int x0 :: st) μ = m_G 123 192 L (.int (x0 - x1) :: st) μ := g_isub (by decide +kernel)
theorem i123_192 : m_G 123 192 L (.int x1 :: .int x0 :: st) μ = if x0 = x1 then m_G 123 195 L st μ else m_G 123 202 L st μ := g_cmpne (off := 10) (by decide +kernel) (by decide)
theorem i123_195 : m_G 123 195 L st μ = m_G 123 196 L (.int 1 :: st) μ := g_iconst (n := 1) (by decide +kernel) (by decide)
theorem i123_196 : m_G 123 196 [v0, v1, v2, v3, v4, v5, .int x0, v7, v8, v9] st μ = m_G 123 198 [v0, v1, v2, v3, v4, v5, .int x0, v7, v8, v9] (.int x0 :: st) μ := g_iload (i := 6) (by decide +kernel) rfl
theorem i123_198 : m_G 123 198 L (.int x1 :: .int x0 :: st) μ = m_G 123 199 L (.int (x0 <<< (x1 &&& 31)) :: st) μ := g_ishl (by decide +kernel)
theorem i123_199 : m_G 123 199 L st μ = m_G 123 203 L st μ := g_goto (off := 4) (by decide +kernel) (by decide)
theorem i123_202 : m_G 123 202 L st μ = m_G 123 203 L (.int 0 :: st) μ := g_iconst (n := 0) (by decide +kernel) (by decide)
theorem i123_203 : m_G 123 203 L (.int x1 :: .int x0 :: st) μ = m_G 123 204 L (.int (x0 ||| x1) :: st) μ := g_ior (by decide +kernel)
theorem i123_204 : m_G 123 204 [v0, v1, v2, v3, v4, v5, v6, v7, v8, v9] (.int x0 :: st) μ = m_G 123 206 [v0, v1, v2, v3, .int x0, v5, v6, v7, v8, v9] st μ := g_istore (i := 4) (by decide +kernel) (Nat.le_of_ble_eq_true rfl) rfl
theorem i123_206 : m_G 123 206 [v0, v1, v2, .int x0, v4, v5, v6, v7, v8, v9] st μ = m_G 123 207 [v0, v1, v2, .int x0, v4, v5, v6, v7, v8, v9] (.int x0 :: st) μ := g_iload_n (i := 3) (by decide +kernel) rfl
theorem i123_207 : m_G 123 207 L st μ = m_G 123 209 L (.int 20 :: st) μ := g_bipush (n := 20) (by decide +kernel) (by decide)
theorem i123_209 : m_G 123 209 L (.int x1 :: .int x0 :: st) μ = if x0 = x1 then m_G 123 212 L st μ else m_G 123 255 L st μ := g_cmpne (off := 46) (by decide +kernel) (by decide)
theorem i123_212 : m_G 123 212 [v0, v1, v2, v3, v4, v5, v6, .int x0, v8, v9] st μ = m_G 123 214 [v0, v1, v2, v3, v4, v5, v6, .int x0, v8, v9] (.int x0 :: st) μ := g_iload (i := 7) (by decide +kernel) rfl
theorem i123_214 : m_G 123 214 L st μ = m_G 123 215 L (.int (-1) :: st) μ := g_iconst (n := -1) (by decide +kernel) (by decide)
theorem i123_215 : m_G 123 215 L (.int x1 :: .int x0 :: st) μ = if x0 = x1 then m_G 123 255 L st μ else m_G 123 218 L st μ := g_cmpeq (off := 40) (by decide +kernel) (by decide)
theorem i123_218 : m_G 123 218 [.ref a0, v1, v2, v3, v4, v5, v6, v7, v8, v9] st μ = m_G 123 219 [.ref a0, v1, v2, v3, v4, v5, v6, v7, v8, v9] (.ref a0 :: st) μ := g_aload_n (i := 0) (by decide +kernel) rfl
theorem i123_219 : m_G 123 219 [v0, .int x0, v2, v3, v4, v5, v6, v7, v8, v9] st μ = m_G 123 220 [v0, .int x0, v2, v3, v4, v5, v6, v7, v8, v9] (.int x0 :: st) μ := g_iload_n (i := 1) (by decide +kernel) rfl
theorem i123_220 : m_G 123 220 [v0, v1, v2, v3, v4, v5, .int x0, v7, v8, v9] st μ = m_G 123 222 [v0, v1, v2, v3, v4, v5, .int x0, v7, v8, v9] (.int x0 :: st) μ := g_iload (i := 6) (by decide +kernel) rfl
theorem i123_222 (ho : m_oc μ a0 = some 9) : m_G 123 222 L (.int x1 :: .int x0 :: .ref a0 :: []) μ = b_c (m_D 125 [.ref a0, .int x0, .int x1] μ) 123 225 L [] := g_virt (i := 178) (n := 2) (a := a0) (c := 9) (l := [(9, 125)]) (by decide +kernel) (by decide +kernel) rfl rfl (x_call_ok (ws := [1, 1, 1]) (Nat.le_of_ble_eq_true rfl) rfl (by decide +kernel) rfl (by decide +kernel) rfl rfl) ho
theorem i123_225 : m_G 123 225 [v0, v1, v2, v3, v4, v5, v6, v7, v8, v9] (.int x0 :: st) μ = m_G 123 227 [v0, v1, v2, v3, v4, v5, v6, v7, v8, .int x0] st μ := g_istore (i := 9) (by decide +kernel) (Nat.le_of_ble_eq_true rfl) rfl
theorem i123_227 : m_G 123 227 [v0, v1, v2, v3, .int x0, v5, v6, v7, v8, v9] st μ = m_G 123 229 [v0, v1, v2, v3, .int x0, v5, v6, v7, v8, v9] (.int x0 :: st) μ := g_iload (i := 4) (by decide +kernel) rfl
theorem i123_229 : m_G 123 229 [v0, v1, v2, v3, v4, v5, v6, v7, v8, .int x0] st μ = m_G 123 231 [v0, v1, v2, v3, v4, v5, v6, v7, v8, .int x0] (.int x0 :: st) μ := g_iload (i := 9) (by decide +kernel) rfl
theorem i123_231 : m_G 123 231 L st μ = m_G 123 232 L (.int (-1) :: st) μ := g_iconst (n := -1) (by decide +kernel) (by decide)
theorem i123_232 : m_G 123 232 L (.int x1 :: .int x0 :: st) μ = if x0 = x1 then m_G 123 251 L st μ else m_G 123 235 L st μ := g_cmpeq (off := 19) (by decide +kernel) (by decide)
theorem i123_235 : m_G 123 235 [v0, v1, .int x0, v3, v4, v5, v6, v7, v8, v9] st μ = m_G 123 236 [v0, v1, .int x0, v3, v4, v5, v6, v7, v8, v9] (.int x0 :: st) μ := g_iload_n (i := 2) (by decide +kernel) rfl
theorem i123_236 : m_G 123 236 [v0, v1, v2, v3, v4, v5, v6, v7, v8, .int x0] st μ = m_G 123 238 [v0, v1, v2, v3, v4, v5, v6, v7, v8, .int x0] (.int x0 :: st) μ := g_iload (i := 9) (by decide +kernel) rfl
theorem i123_238 : m_G 123 238 L (.int x1 :: .int x0 :: [w0]) μ = b_c (m_D 104 [.int x0, .int x1] μ) 123 241 L [w0] := g_stat (i := 172) (n := 2) (by decide +kernel) (by decide +kernel) (by decide) (x_call_ok (ws := [1, 1]) (Nat.le_of_ble_eq_true rfl) rfl (by decide +kernel) rfl (by decide +kernel) rfl rfl)
theorem i123_241 : m_G 123 241 L (.int x0 :: st) μ = if x0 = 0 then m_G 123 251 L st μ else m_G 123 244 L st μ := g_ifeq (off := 10) (by decide +kernel) (by decide)
theorem i123_244 : m_G 123 244 L st μ = m_G 123 245 L (.int 1 :: st) μ := g_iconst (n := 1) (by decide +kernel) (by decide)
theorem i123_245 : m_G 123 245 [v0, v1, v2, v3, v4, v5, .int x0, v7, v8, v9] st μ = m_G 123 247 [v0, v1, v2, v3, v4, v5, .int x0, v7, v8, v9] (.int x0 :: st) μ := g_iload (i := 6) (by decide +kernel) rfl
theorem i123_247 : m_G 123 247 L (.int x1 :: .int x0 :: st) μ = m_G 123 248 L (.int (x0 <<< (x1 &&& 31)) :: st) μ := g_ishl (by decide +kernel)
theorem i123_248 : m_G 123 248 L st μ = m_G 123 252 L st μ := g_goto (off := 4) (by decide +kernel) (by decide)
theorem i123_251 : m_G 123 251 L st μ = m_G 123 252 L (.int 0 :: st) μ := g_iconst (n := 0) (by decide +kernel) (by decide)
theorem i123_252 : m_G 123 252 L (.int x1 :: .int x0 :: st) μ = m_G 123 253 L (.int (x0 ||| x1) :: st) μ := g_ior (by decide +kernel)
theorem i123_253 : m_G 123 253 [v0, v1, v2, v3, v4, v5, v6, v7, v8, v9] (.int x0 :: st) μ = m_G 123 255 [v0, v1, v2, v3, .int x0, v5, v6, v7, v8, v9] st μ := g_istore (i := 4) (by decide +kernel) (Nat.le_of_ble_eq_true rfl) rfl
theorem i123_255 : m_G 123 255 [v0, v1, v2, v3, v4, v5, .int x0, v7, v8, v9] st μ = m_G 123 258 [v0, v1, v2, v3, v4, v5, .int (x0 + 1), v7, v8, v9] st μ := g_iinc (i := 6) (n := 1) (by decide +kernel) rfl (by decide) rfl
theorem i123_258 : m_G 123 258 L st μ = m_G 123 9 L st μ := g_goto (off := -249) (by decide +kernel) (by decide)
theorem i123_261 : m_G 123 261 [v0, v1, v2, v3, .int x0, v5, v6, v7, v8, v9] st μ = m_G 123 263 [v0, v1, v2, v3, .int x0, v5, v6, v7, v8, v9] (.int x0 :: st) μ := g_iload (i := 4) (by decide +kernel) rfl
theorem i123_263 : m_G 123 263 L [.int x0] μ = some (some (.int x0), μ) := g_ireti (by decide +kernel) (by decide)
theorem D123 : m_D 123 [.ref a0, .int x0, .int x1, .int x2] μ = m_G 123 0 [.ref a0, .int x0, .int x1, .int x2, m_d, m_d, m_d, m_d, m_d, m_d] [] μ := d_def (by decide) rfl
theorem i124_0 : m_G 124 0 L st μ = m_G 124 1 L (.int 0 :: st) μ := g_iconst (n := 0) (by decide +kernel) (by decide)
theorem i124_1 : m_G 124 1 [v0, v1, v2, v3, v4] (.int x0 :: st) μ = m_G 124 2 [v0, v1, v2, .int x0, v4] st μ := g_istore_n (i := 3) (by decide +kernel) (Nat.le_of_ble_eq_true rfl) rfl
theorem i124_2 : m_G 124 2 L st μ = m_G 124 3 L (.int 0 :: st) μ := g_iconst (n := 0) (by decide +kernel) (by decide)
theorem i124_3 : m_G 124 3 [v0, v1, v2, v3, v4] (.int x0 :: st) μ = m_G 124 5 [v0, v1, v2, v3, .int x0] st μ := g_istore (i := 4) (by decide +kernel) (Nat.le_of_ble_eq_true rfl) rfl
theorem i124_5 : m_G 124 5 [v0, v1, v2, v3, .int x0] st μ = m_G 124 7 [v0, v1, v2, v3, .int x0] (.int x0 :: st) μ := g_iload (i := 4) (by decide +kernel) rfl
theorem i124_7 : m_G 124 7 [v0, v1, .int x0, v3, v4] st μ = m_G 124 8 [v0, v1, .int x0, v3, v4] (.int x0 :: st) μ := g_iload_n (i := 2) (by decide +kernel) rfl
theorem i124_8 : m_G 124 8 L (.int x1 :: .int x0 :: st) μ = if x0 < x1 then m_G 124 11 L st μ else m_G 124 51 L st μ := g_cmpge (off := 43) (by decide +kernel) (by decide)
theorem i124_11 : m_G 124 11 [v0, v1, v2, .int x0, v4] st μ = m_G 124 12 [v0, v1, v2, .int x0, v4] (.int x0 :: st) μ := g_iload_n (i := 3) (by decide +kernel) rfl
theorem i124_12 : m_G 124 12 [.ref a0, v1, v2, v3, v4] st μ = m_G 124 13 [.ref a0, v1, v2, v3, v4] (.ref a0 :: st) μ := g_aload_n (i := 0) (by decide +kernel) rfl
theorem i124_13 : m_G 124 13 L (.ref a0 :: st) μ = b_v (m_gf μ a0 9 4) 124 16 L st μ := g_getf (i := 19) (by decide +kernel) (by decide +kernel)
theorem i124_16 : m_G 124 16 L st μ = m_G 124 18 L (.int 24 :: st) μ := g_bipush (n := 24) (by decide +kernel) (by decide)
theorem i124_18 : m_G 124 18 [v0, .int x0, v2, v3, v4] st μ = m_G 124 19 [v0, .int x0, v2, v3, v4] (.int x0 :: st) μ := g_iload_n (i := 1) (by decide +kernel) rfl
theorem i124_19 : m_G 124 19 L (.int x1 :: .int x0 :: st) μ = m_G 124 20 L (.int (x0 * x1) :: st) μ := g_imul (by decide +kernel)
theorem i124_20 : m_G 124 20 [v0, v1, v2, v3, .int x0] st μ = m_G 124 22 [v0, v1, v2, v3, .int x0] (.int x0 :: st) μ := g_iload (i := 4) (by decide +kernel) rfl
theorem i124_22 : m_G 124 22 L (.int x1 :: .int x0 :: st) μ = m_G 124 23 L (.int (x0 + x1) :: st) μ := g_iadd (by decide +kernel)
theorem i124_23 : m_G 124 23 L (.int x0 :: .ref a0 :: st) μ = b_i (m_ga μ a0 x0) 124 24 L st μ := g_iald (by decide +kernel)
theorem i124_24 : m_G 124 24 [.ref a0, v1, v2, v3, v4] st μ = m_G 124 25 [.ref a0, v1, v2, v3, v4] (.ref a0 :: st) μ := g_aload_n (i := 0) (by decide +kernel) rfl
theorem i124_25 : m_G 124 25 L (.ref a0 :: st) μ = b_v (m_gf μ a0 9 4) 124 28 L st μ := g_getf (i := 19) (by decide +kernel) (by decide +kernel)
theorem i124_28 : m_G 124 28 L st μ = m_G 124 30 L (.int 24 :: st) μ := g_bipush (n := 24) (by decide +kernel) (by decide)
theorem i124_30 : m_G 124 30 [v0, .int x0, v2, v3, v4] st μ = m_G 124 31 [v0, .int x0, v2, v3, v4] (.int x0 :: st) μ := g_iload_n (i := 1) (by decide +kernel) rfl
theorem i124_31 : m_G 124 31 L (.int x1 :: .int x0 :: st) μ = m_G 124 32 L (.int (x0 * x1) :: st) μ := g_imul (by decide +kernel)
theorem i124_32 : m_G 124 32 [v0, v1, .int x0, v3, v4] st μ = m_G 124 33 [v0, v1, .int x0, v3, v4] (.int x0 :: st) μ := g_iload_n (i := 2) (by decide +kernel) rfl
theorem i124_33 : m_G 124 33 L (.int x1 :: .int x0 :: st) μ = m_G 124 34 L (.int (x0 + x1) :: st) μ := g_iadd (by decide +kernel)
theorem i124_34 : m_G 124 34 L (.int x0 :: .ref a0 :: st) μ = b_i (m_ga μ a0 x0) 124 35 L st μ := g_iald (by decide +kernel)
theorem i124_35 : m_G 124 35 L (.int x1 :: .int x0 :: st) μ = if x0 = x1 then m_G 124 38 L st μ else m_G 124 42 L st μ := g_cmpne (off := 7) (by decide +kernel) (by decide)
theorem i124_38 : m_G 124 38 L st μ = m_G 124 39 L (.int 1 :: st) μ := g_iconst (n := 1) (by decide +kernel) (by decide)
theorem i124_39 : m_G 124 39 L st μ = m_G 124 43 L st μ := g_goto (off := 4) (by decide +kernel) (by decide)
theorem i124_42 : m_G 124 42 L st μ = m_G 124 43 L (.int 0 :: st) μ := g_iconst (n := 0) (by decide +kernel) (by decide)
theorem i124_43 : m_G 124 43 L (.int x1 :: .int x0 :: st) μ = m_G 124 44 L (.int (x0 + x1) :: st) μ := g_iadd (by decide +kernel)
theorem i124_44 : m_G 124 44 [v0, v1, v2, v3, v4] (.int x0 :: st) μ = m_G 124 45 [v0, v1, v2, .int x0, v4] st μ := g_istore_n (i := 3) (by decide +kernel) (Nat.le_of_ble_eq_true rfl) rfl
theorem i124_45 : m_G 124 45 [v0, v1, v2, v3, .int x0] st μ = m_G 124 48 [v0, v1, v2, v3, .int (x0 + 1)] st μ := g_iinc (i := 4) (n := 1) (by decide +kernel) rfl (by decide) rfl
theorem i124_48 : m_G 124 48 L st μ = m_G 124 5 L st μ := g_goto (off := -43) (by decide +kernel) (by decide)
theorem i124_51 : m_G 124 51 [v0, v1, v2, .int x0, v4] st μ = m_G 124 52 [v0, v1, v2, .int x0, v4] (.int x0 :: st) μ := g_iload_n (i := 3) (by decide +kernel) rfl
theorem i124_52 : m_G 124 52 L [.int x0] μ = some (some (.int x0), μ) := g_ireti (by decide +kernel) (by decide)
theorem D124 : m_D 124 [.ref a0, .int x0, .int x1] μ = m_G 124 0 [.ref a0, .int x0, .int x1, m_d, m_d] [] μ := d_def (by decide) rfl
theorem i125_0 : m_G 125 0 L st μ = m_G 125 1 L (.int (-1) :: st) μ := g_iconst (n := -1) (by decide +kernel) (by decide)
theorem i125_1 : m_G 125 1 [v0, v1, v2, v3, v4] (.int x0 :: st) μ = m_G 125 2 [v0, v1, v2, .int x0, v4] st μ := g_istore_n (i := 3) (by decide +kernel) (Nat.le_of_ble_eq_true rfl) rfl
theorem i125_2 : m_G 125 2 L st μ = m_G 125 3 L (.int 0 :: st) μ := g_iconst (n := 0) (by decide +kernel) (by decide)
theorem i125_3 : m_G 125 3 [v0, v1, v2, v3, v4] (.int x0 :: st) μ = m_G 125 5 [v0, v1, v2, v3, .int x0] st μ := g_istore (i := 4) (by decide +kernel) (Nat.le_of_ble_eq_true rfl) rfl
theorem i125_5 : m_G 125 5 [v0, v1, v2, v3, .int x0] st μ = m_G 125 7 [v0, v1, v2, v3, .int x0] (.int x0 :: st) μ := g_iload (i := 4) (by decide +kernel) rfl
theorem i125_7 : m_G 125 7 [v0, v1, .int x0, v3, v4] st μ = m_G 125 8 [v0, v1, .int x0, v3, v4] (.int x0 :: st) μ := g_iload_n (i := 2) (by decide +kernel) rfl
theorem i125_8 : m_G 125 8 L (.int x1 :: .int x0 :: st) μ = if x0 < x1 then m_G 125 11 L st μ else m_G 125 50 L st μ := g_cmpge (off := 42) (by decide +kernel) (by decide)
theorem i125_11 : m_G 125 11 [.ref a0, v1, v2, v3, v4] st μ = m_G 125 12 [.ref a0, v1, v2, v3, v4] (.ref a0 :: st) μ := g_aload_n (i := 0) (by decide +kernel) rfl
theorem i125_12 : m_G 125 12 L (.ref a0 :: st) μ = b_v (m_gf μ a0 9 4) 125 15 L st μ := g_getf (i := 19) (by decide +kernel) (by decide +kernel)
theorem i125_15 : m_G 125 15 L st μ = m_G 125 17 L (.int 24 :: st) μ := g_bipush (n := 24) (by decide +kernel) (by decide)
theorem i125_17 : m_G 125 17 [v0, .int x0, v2, v3, v4] st μ = m_G 125 18 [v0, .int x0, v2, v3, v4] (.int x0 :: st) μ := g_iload_n (i := 1) (by decide +kernel) rfl
theorem i125_18 : m_G 125 18 L (.int x1 :: .int x0 :: st) μ = m_G 125 19 L (.int (x0 * x1) :: st) μ := g_imul (by decide +kernel)
theorem i125_19 : m_G 125 19 [v0, v1, v2, v3, .int x0] st μ = m_G 125 21 [v0, v1, v2, v3, .int x0] (.int x0 :: st) μ := g_iload (i := 4) (by decide +kernel) rfl
theorem i125_21 : m_G 125 21 L (.int x1 :: .int x0 :: st) μ = m_G 125 22 L (.int (x0 + x1) :: st) μ := g_iadd (by decide +kernel)
theorem i125_22 : m_G 125 22 L (.int x0 :: .ref a0 :: st) μ = b_i (m_ga μ a0 x0) 125 23 L st μ := g_iald (by decide +kernel)
theorem i125_23 : m_G 125 23 [.ref a0, v1, v2, v3, v4] st μ = m_G 125 24 [.ref a0, v1, v2, v3, v4] (.ref a0 :: st) μ := g_aload_n (i := 0) (by decide +kernel) rfl
theorem i125_24 : m_G 125 24 L (.ref a0 :: st) μ = b_v (m_gf μ a0 9 4) 125 27 L st μ := g_getf (i := 19) (by decide +kernel) (by decide +kernel)
theorem i125_27 : m_G 125 27 L st μ = m_G 125 29 L (.int 24 :: st) μ := g_bipush (n := 24) (by decide +kernel) (by decide)
theorem i125_29 : m_G 125 29 [v0, .int x0, v2, v3, v4] st μ = m_G 125 30 [v0, .int x0, v2, v3, v4] (.int x0 :: st) μ := g_iload_n (i := 1) (by decide +kernel) rfl
theorem i125_30 : m_G 125 30 L (.int x1 :: .int x0 :: st) μ = m_G 125 31 L (.int (x0 * x1) :: st) μ := g_imul (by decide +kernel)
theorem i125_31 : m_G 125 31 [v0, v1, .int x0, v3, v4] st μ = m_G 125 32 [v0, v1, .int x0, v3, v4] (.int x0 :: st) μ := g_iload_n (i := 2) (by decide +kernel) rfl
theorem i125_32 : m_G 125 32 L (.int x1 :: .int x0 :: st) μ = m_G 125 33 L (.int (x0 + x1) :: st) μ := g_iadd (by decide +kernel)
theorem i125_33 : m_G 125 33 L (.int x0 :: .ref a0 :: st) μ = b_i (m_ga μ a0 x0) 125 34 L st μ := g_iald (by decide +kernel)
theorem i125_34 : m_G 125 34 L (.int x1 :: .int x0 :: st) μ = if x0 = x1 then m_G 125 37 L st μ else m_G 125 42 L st μ := g_cmpne (off := 8) (by decide +kernel) (by decide)
theorem i125_37 : m_G 125 37 [v0, v1, v2, v3, .int x0] st μ = m_G 125 39 [v0, v1, v2, v3, .int x0] (.int x0 :: st) μ := g_iload (i := 4) (by decide +kernel) rfl
theorem i125_39 : m_G 125 39 L st μ = m_G 125 43 L st μ := g_goto (off := 4) (by decide +kernel) (by decide)
theorem i125_42 : m_G 125 42 [v0, v1, v2, .int x0, v4] st μ = m_G 125 43 [v0, v1, v2, .int x0, v4] (.int x0 :: st) μ := g_iload_n (i := 3) (by decide +kernel) rfl
theorem i125_43 : m_G 125 43 [v0, v1, v2, v3, v4] (.int x0 :: st) μ = m_G 125 44 [v0, v1, v2, .int x0, v4] st μ := g_istore_n (i := 3) (by decide +kernel) (Nat.le_of_ble_eq_true rfl) rfl
theorem i125_44 : m_G 125 44 [v0, v1, v2, v3, .int x0] st μ = m_G 125 47 [v0, v1, v2, v3, .int (x0 + 1)] st μ := g_iinc (i := 4) (n := 1) (by decide +kernel) rfl (by decide) rfl
theorem i125_47 : m_G 125 47 L st μ = m_G 125 5 L st μ := g_goto (off := -42) (by decide +kernel) (by decide)
theorem i125_50 : m_G 125 50 [v0, v1, v2, .int x0, v4] st μ = m_G 125 51 [v0, v1, v2, .int x0, v4] (.int x0 :: st) μ := g_iload_n (i := 3) (by decide +kernel) rfl
theorem i125_51 : m_G 125 51 L [.int x0] μ = some (some (.int x0), μ) := g_ireti (by decide +kernel) (by decide)
theorem D125 : m_D 125 [.ref a0, .int x0, .int x1] μ = m_G 125 0 [.ref a0, .int x0, .int x1, m_d, m_d] [] μ := d_def (by decide) rfl
theorem i126_0 : m_G 126 0 [v0, v1, v2, .int x0, v4, v5, v6, v7, v8] st μ = m_G 126 1 [v0, v1, v2, .int x0, v4, v5, v6, v7, v8] (.int x0 :: st) μ := g_iload_n (i := 3) (by decide +kernel) rfl
theorem i126_1 : m_G 126 1 [v0, v1, v2, v3, v4, v5, v6, v7, v8] (.int x0 :: st) μ = m_G 126 3 [v0, v1, v2, v3, .int x0, v5, v6, v7, v8] st μ := g_istore (i := 4) (by decide +kernel) (Nat.le_of_ble_eq_true rfl) rfl
theorem i126_3 : m_G 126 3 L st μ = m_G 126 4 L (.int 0 :: st) μ := g_iconst (n := 0) (by decide +kernel) (by decide)
theorem i126_4 : m_G 126 4 [v0, v1, v2, v3, v4, v5, v6, v7, v8] (.int x0 :: st) μ = m_G 126 6 [v0, v1, v2, v3, v4, .int x0, v6, v7, v8] st μ := g_istore (i := 5) (by decide +kernel) (Nat.le_of_ble_eq_true rfl) rfl
theorem i126_6 : m_G 126 6 [v0, v1, v2, v3, v4, .int x0, v6, v7, v8] st μ = m_G 126 8 [v0, v1, v2, v3, v4, .int x0, v6, v7, v8] (.int x0 :: st) μ := g_iload (i := 5) (by decide +kernel) rfl
theorem i126_8 : m_G 126 8 [.ref a0, v1, v2, v3, v4, v5, v6, v7, v8] st μ = m_G 126 9 [.ref a0, v1, v2, v3, v4, v5, v6, v7, v8] (.ref a0 :: st) μ := g_aload_n (i := 0) (by decide +kernel) rfl
theorem i126_9 : m_G 126 9 L (.ref a0 :: st) μ = b_v (m_gf μ a0 9 19) 126 12 L st μ := g_getf (i := 47) (by decide +kernel) (by decide +kernel)
theorem i126_12 : m_G 126 12 [v0, .int x0, v2, v3, v4, v5, v6, v7, v8] st μ = m_G 126 13 [v0, .int x0, v2, v3, v4, v5, v6, v7, v8] (.int x0 :: st) μ := g_iload_n (i := 1) (by decide +kernel) rfl
theorem i126_13 : m_G 126 13 L (.int x0 :: .ref a0 :: st) μ = b_i (m_ga μ a0 x0) 126 14 L st μ := g_iald (by decide +kernel)
theorem i126_14 : m_G 126 14 L (.int x1 :: .int x0 :: st) μ = if x0 < x1 then m_G 126 17 L st μ else m_G 126 44 L st μ := g_cmpge (off := 30) (by decide +kernel) (by decide)
theorem i126_17 : m_G 126 17 [.ref a0, v1, v2, v3, v4, v5, v6, v7, v8] st μ = m_G 126 18 [.ref a0, v1, v2, v3, v4, v5, v6, v7, v8] (.ref a0 :: st) μ := g_aload_n (i := 0) (by decide +kernel) rfl
theorem i126_18 : m_G 126 18 [v0, v1, .int x0, v3, v4, v5, v6, v7, v8] st μ = m_G 126 19 [v0, v1, .int x0, v3, v4, v5, v6, v7, v8] (.int x0 :: st) μ := g_iload_n (i := 2) (by decide +kernel) rfl
theorem i126_19 : m_G 126 19 [v0, v1, v2, v3, .int x0, v5, v6, v7, v8] st μ = m_G 126 21 [v0, v1, v2, v3, .int x0, v5, v6, v7, v8] (.int x0 :: st) μ := g_iload (i := 4) (by decide +kernel) rfl
theorem i126_21 : m_G 126 21 [.ref a0, v1, v2, v3, v4, v5, v6, v7, v8] st μ = m_G 126 22 [.ref a0, v1, v2, v3, v4, v5, v6, v7, v8] (.ref a0 :: st) μ := g_aload_n (i := 0) (by decide +kernel) rfl
theorem i126_22 : m_G 126 22 L (.ref a0 :: st) μ = b_v (m_gf μ a0 9 20) 126 25 L st μ := g_getf (i := 50) (by decide +kernel) (by decide +kernel)
theorem i126_25 : m_G 126 25 L st μ = m_G 126 27 L (.int 6 :: st) μ := g_bipush (n := 6) (by decide +kernel) (by decide)
theorem i126_27 : m_G 126 27 [v0, .int x0, v2, v3, v4, v5, v6, v7, v8] st μ = m_G 126 28 [v0, .int x0, v2, v3, v4, v5, v6, v7, v8] (.int x0 :: st) μ := g_iload_n (i := 1) (by decide +kernel) rfl
theorem i126_28 : m_G 126 28 L (.int x1 :: .int x0 :: st) μ = m_G 126 29 L (.int (x0 * x1) :: st) μ := g_imul (by decide +kernel)
theorem i126_29 : m_G 126 29 [v0, v1, v2, v3, v4, .int x0, v6, v7, v8] st μ = m_G 126 31 [v0, v1, v2, v3, v4, .int x0, v6, v7, v8] (.int x0 :: st) μ := g_iload (i := 5) (by decide +kernel) rfl
theorem i126_31 : m_G 126 31 L (.int x1 :: .int x0 :: st) μ = m_G 126 32 L (.int (x0 + x1) :: st) μ := g_iadd (by decide +kernel)
theorem i126_32 : m_G 126 32 L (.int x0 :: .ref a0 :: st) μ = b_i (m_ga μ a0 x0) 126 33 L st μ := g_iald (by decide +kernel)
theorem i126_33 (ho : m_oc μ a0 = some 9) : m_G 126 33 L (.int x2 :: .int x1 :: .int x0 :: .ref a0 :: []) μ = b_c (m_D 123 [.ref a0, .int x0, .int x1, .int x2] μ) 126 36 L [] := g_virt (i := 181) (n := 3) (a := a0) (c := 9) (l := [(9, 123)]) (by decide +kernel) (by decide +kernel) rfl rfl (x_call_ok (ws := [1, 1, 1, 1]) (Nat.le_of_ble_eq_true rfl) rfl (by decide +kernel) rfl (by decide +kernel) rfl rfl) ho
theorem i126_36 : m_G 126 36 [v0, v1, v2, v3, v4, v5, v6, v7, v8] (.int x0 :: st) μ = m_G 126 38 [v0, v1, v2, v3, .int x0, v5, v6, v7, v8] st μ := g_istore (i := 4) (by decide +kernel) (Nat.le_of_ble_eq_true rfl) rfl
theorem i126_38 : m_G 126 38 [v0, v1, v2, v3, v4, .int x0, v6, v7, v8] st μ = m_G 126 41 [v0, v1, v2, v3, v4, .int (x0 + 1), v6, v7, v8] st μ := g_iinc (i := 5) (n := 1) (by decide +kernel) rfl (by decide) rfl
theorem i126_41 : m_G 126 41 L st μ = m_G 126 6 L st μ := g_goto (off := -35) (by decide +kernel) (by decide)
theorem i126_44 : m_G 126 44 [.ref a0, v1, v2, v3, v4, v5, v6, v7, v8] st μ = m_G 126 45 [.ref a0, v1, v2, v3, v4, v5, v6, v7, v8] (.ref a0 :: st) μ := g_aload_n (i := 0) (by decide +kernel) rfl
theorem i126_45 : m_G 126 45 L (.ref a0 :: st) μ = b_v (m_gf μ a0 9 18) 126 48 L st μ := g_getf (i := 44) (by decide +kernel) (by decide +kernel)
theorem i126_48 : m_G 126 48 [v0, .int x0, v2, v3, v4, v5, v6, v7, v8] st μ = m_G 126 49 [v0, .int x0, v2, v3, v4, v5, v6, v7, v8] (.int x0 :: st) μ := g_iload_n (i := 1) (by decide +kernel) rfl
theorem i126_49 : m_G 126 49 L (.int x0 :: .ref a0 :: st) μ = b_i (m_ga μ a0 x0) 126 50 L st μ := g_iald (by decide +kernel)
theorem i126_50 : m_G 126 50 [v0, v1, v2, v3, v4, v5, v6, v7, v8] (.int x0 :: st) μ = m_G 126 52 [v0, v1, v2, v3, v4, .int x0, v6, v7, v8] st μ := g_istore (i := 5) (by decide +kernel) (Nat.le_of_ble_eq_true rfl) rfl
theorem i126_52 : m_G 126 52 L st μ = m_G 126 53 L (.int 0 :: st) μ := g_iconst (n := 0) (by decide +kernel) (by decide)
theorem i126_53 : m_G 126 53 [v0, v1, v2, v3, v4, v5, v6, v7, v8] (.int x0 :: st) μ = m_G 126 55 [v0, v1, v2, v3, v4, v5, .int x0, v7, v8] st μ := g_istore (i := 6) (by decide +kernel) (Nat.le_of_ble_eq_true rfl) rfl
theorem i126_55 : m_G 126 55 L st μ = m_G 126 56 L (.int 0 :: st) μ := g_iconst (n := 0) (by decide +kernel) (by decide)
theorem i126_56 : m_G 126 56 [v0, v1, v2, v3, v4, v5, v6, v7, v8] (.int x0 :: st) μ = m_G 126 58 [v0, v1, v2, v3, v4, v5, v6, .int x0, v8] st μ := g_istore (i := 7) (by decide +kernel) (Nat.le_of_ble_eq_true rfl) rfl
theorem i126_58 : m_G 126 58 L st μ = m_G 126 59 L (.int 0 :: st) μ := g_iconst (n := 0) (by decide +kernel) (by decide)
theorem i126_59 : m_G 126 59 [v0, v1, v2, v3, v4, v5, v6, v7, v8] (.int x0 :: st) μ = m_G 126 61 [v0, v1, v2, v3, v4, v5, v6, v7, .int x0] st μ := g_istore (i := 8) (by decide +kernel) (Nat.le_of_ble_eq_true rfl) rfl
theorem i126_61 : m_G 126 61 [v0, v1, v2, v3, v4, v5, v6, v7, .int x0] st μ = m_G 126 63 [v0, v1, v2, v3, v4, v5, v6, v7, .int x0] (.int x0 :: st) μ := g_iload (i := 8) (by decide +kernel) rfl
theorem i126_63 : m_G 126 63 [.ref a0, v1, v2, v3, v4, v5, v6, v7, v8] st μ = m_G 126 64 [.ref a0, v1, v2, v3, v4, v5, v6, v7, v8] (.ref a0 :: st) μ := g_aload_n (i := 0) (by decide +kernel) rfl
theorem i126_64 : m_G 126 64 L (.ref a0 :: st) μ = b_v (m_gf μ a0 9 1) 126 67 L st μ := g_getf (i := 7) (by decide +kernel) (by decide +kernel)
theorem i126_67 : m_G 126 67 [v0, v1, .int x0, v3, v4, v5, v6, v7, v8] st μ = m_G 126 68 [v0, v1, .int x0, v3, v4, v5, v6, v7, v8] (.int x0 :: st) μ := g_iload_n (i := 2) (by decide +kernel) rfl
theorem i126_68 : m_G 126 68 L (.int x0 :: .ref a0 :: st) μ = b_i (m_ga μ a0 x0) 126 69 L st μ := g_iald (by decide +kernel)
theorem i126_69 : m_G 126 69 L (.int x1 :: .int x0 :: st) μ = if x0 < x1 then m_G 126 72 L st μ else m_G 126 130 L st μ := g_cmpge (off := 61) (by decide +kernel) (by decide)
theorem i126_72 : m_G 126 72 [v0, v1, v2, v3, v4, v5, .int x0, v7, v8] st μ = m_G 126 74 [v0, v1, v2, v3, v4, v5, .int x0, v7, v8] (.int x0 :: st) μ := g_iload (i := 6) (by decide +kernel) rfl
theorem i126_74 : m_G 126 74 [.ref a0, v1, v2, v3, v4, v5, v6, v7, v8] st μ = m_G 126 75 [.ref a0, v1, v2, v3, v4, v5, v6, v7, v8] (.ref a0 :: st) μ := g_aload_n (i := 0) (by decide +kernel) rfl
theorem i126_75 : m_G 126 75 [v0, v1, .int x0, v3, v4, v5, v6, v7, v8] st μ = m_G 126 76 [v0, v1, .int x0, v3, v4, v5, v6, v7, v8] (.int x0 :: st) μ := g_iload_n (i := 2) (by decide +kernel) rfl
theorem i126_76 : m_G 126 76 [v0, v1, v2, v3, v4, v5, v6, v7, .int x0] st μ = m_G 126 78 [v0, v1, v2, v3, v4, v5, v6, v7, .int x0] (.int x0 :: st) μ := g_iload (i := 8) (by decide +kernel) rfl
theorem i126_78 (ho : m_oc μ a0 = some 9) : m_G 126 78 L (.int x1 :: .int x0 :: .ref a0 :: [w0]) μ = b_c (m_D 119 [.ref a0, .int x0, .int x1] μ) 126 81 L [w0] := g_virt (i := 157) (n := 2) (a := a0) (c := 9) (l := [(9, 119)]) (by decide +kernel) (by decide +kernel) rfl rfl (x_call_ok (ws := [1, 1, 1]) (Nat.le_of_ble_eq_true rfl) rfl (by decide +kernel) rfl (by decide +kernel) rfl rfl) ho
theorem i126_81 : m_G 126 81 L (.int x0 :: st) μ = if x0 ≤ 0 then m_G 126 91 L st μ else m_G 126 84 L st μ := g_ifle (off := 10) (by decide +kernel) (by decide)
theorem i126_84 : m_G 126 84 L st μ = m_G 126 85 L (.int 1 :: st) μ := g_iconst (n := 1) (by decide +kernel) (by decide)
theorem i126_85 : m_G 126 85 [v0, v1, v2, v3, v4, v5, v6, v7, .int x0] st μ = m_G 126 87 [v0, v1, v2, v3, v4, v5, v6, v7, .int x0] (.int x0 :: st) μ := g_iload (i := 8) (by decide +kernel) rfl
theorem i126_87 : m_G 126 87 L (.int x1 :: .int x0 :: st) μ = m_G 126 88 L (.int (x0 <<< (x1 &&& 31)) :: st) μ := g_ishl (by decide +kernel)
theorem i126_88 : m_G 126 88 L st μ = m_G 126 92 L st μ := g_goto (off := 4) (by decide +kernel) (by decide)
theorem i126_91 : m_G 126 91 L st μ = m_G 126 92 L (.int 0 :: st) μ := g_iconst (n := 0) (by decide +kernel) (by decide)
theorem i126_92 : m_G 126 92 L (.int x1 :: .int x0 :: st) μ = m_G 126 93 L (.int (x0 ||| x1) :: st) μ := g_ior (by decide +kernel)
theorem i126_93 : m_G 126 93 [v0, v1, v2, v3, v4, v5, v6, v7, v8] (.int x0 :: st) μ = m_G 126 95 [v0, v1, v2, v3, v4, v5, .int x0, v7, v8] st μ := g_istore (i := 6) (by decide +kernel) (Nat.le_of_ble_eq_true rfl) rfl
theorem i126_95 : m_G 126 95 [v0, v1, v2, v3, v4, v5, v6, .int x0, v8] st μ = m_G 126 97 [v0, v1, v2, v3, v4, v5, v6, .int x0, v8] (.int x0 :: st) μ := g_iload (i := 7) (by decide +kernel) rfl
theorem i126_97 : m_G 126 97 [.ref a0, v1, v2, v3, v4, v5, v6, v7, v8] st μ = m_G 126 98 [.ref a0, v1, v2, v3, v4, v5, v6, v7, v8] (.ref a0 :: st) μ := g_aload_n (i := 0) (by decide +kernel) rfl
theorem i126_98 : m_G 126 98 L (.ref a0 :: st) μ = b_v (m_gf μ a0 9 3) 126 101 L st μ := g_getf (i := 16) (by decide +kernel) (by decide +kernel)
theorem i126_101 : m_G 126 101 L st μ = m_G 126 103 L (.int 24 :: st) μ := g_bipush (n := 24) (by decide +kernel) (by decide)
theorem i126_103 : m_G 126 103 [v0, v1, .int x0, v3, v4, v5, v6, v7, v8] st μ = m_G 126 104 [v0, v1, .int x0, v3, v4, v5, v6, v7, v8] (.int x0 :: st) μ := g_iload_n (i := 2) (by decide +kernel) rfl
theorem i126_104 : m_G 126 104 L (.int x1 :: .int x0 :: st) μ = m_G 126 105 L (.int (x0 * x1) :: st) μ := g_imul (by decide +kernel)
theorem i126_105 : m_G 126 105 [v0, v1, v2, v3, v4, v5, v6, v7, .int x0] st μ = m_G 126 107 [v0, v1, v2, v3, v4, v5, v6, v7, .int x0] (.int x0 :: st) μ := g_iload (i := 8) (by decide +kernel) rfl
theorem i126_107 : m_G 126 107 L (.int x1 :: .int x0 :: st) μ = m_G 126 108 L (.int (x0 + x1) :: st) μ := g_iadd (by decide +kernel)
theorem i126_108 : m_G 126 108 L (.int x0 :: .ref a0 :: st) μ = b_i (m_ga μ a0 x0) 126 109 L st μ := g_iald (by decide +kernel)
theorem i126_109 : m_G 126 109 L st μ = m_G 126 110 L (.int (-1) :: st) μ := g_iconst (n := -1) (by decide +kernel) (by decide)
theorem i126_110 : m_G 126 110 L (.int x1 :: .int x0 :: st) μ = if x0 = x1 then m_G 126 120 L st μ else m_G 126 113 L st μ := g_cmpeq (off := 10) (by decide +kernel) (by decide)
theorem i126_113 : m_G 126 113 L st μ = m_G 126 114 L (.int 1 :: st) μ := g_iconst (n := 1) (by decide +kernel) (by decide)
theorem i126_114 : m_G 126 114 [v0, v1, v2, v3, v4, v5, v6, v7, .int x0] st μ = m_G 126 116 [v0, v1, v2, v3, v4, v5, v6, v7, .int x0] (.int x0 :: st) μ := g_iload (i := 8) (by decide +kernel) rfl
theorem i126_116 : m_G 126 116 L (.int x1 :: .int x0 :: st) μ = m_G 126 117 L (.int (x0 <<< (x1 &&& 31)) :: st) μ := g_ishl (by decide +kernel)
theorem i126_117 : m_G 126 117 L st μ = m_G 126 121 L st μ := g_goto (off := 4) (by decide +kernel) (by decide)
theorem i126_120 : m_G 126 120 L st μ = m_G 126 121 L (.int 0 :: st) μ := g_iconst (n := 0) (by decide +kernel) (by decide)
theorem i126_121 : m_G 126 121 L (.int x1 :: .int x0 :: st) μ = m_G 126 122 L (.int (x0 ||| x1) :: st) μ := g_ior (by decide +kernel)
theorem i126_122 : m_G 126 122 [v0, v1, v2, v3, v4, v5, v6, v7, v8] (.int x0 :: st) μ = m_G 126 124 [v0, v1, v2, v3, v4, v5, v6, .int x0, v8] st μ := g_istore (i := 7) (by decide +kernel) (Nat.le_of_ble_eq_true rfl) rfl
theorem i126_124 : m_G 126 124 [v0, v1, v2, v3, v4, v5, v6, v7, .int x0] st μ = m_G 126 127 [v0, v1, v2, v3, v4, v5, v6, v7, .int (x0 + 1)] st μ := g_iinc (i := 8) (n := 1) (by decide +kernel) rfl (by decide) rfl
theorem i126_127 : m_G 126 127 L st μ = m_G 126 61 L st μ := g_goto (off := -66) (by decide +kernel) (by decide)
theorem i126_130 : m_G 126 130 [v0, v1, v2, v3, v4, .int x0, v6, v7, v8] st μ = m_G 126 132 [v0, v1, v2, v3, v4, .int x0, v6, v7, v8] (.int x0 :: st) μ := g_iload (i := 5) (by decide +kernel) rfl
theorem i126_132_1 : m_G 126 132 L (.int 1 :: st) μ = m_G 126 168 L st μ := g_tab (dd := 82) (lo := 1) (hi := 5) (offs := #[36, 42, 49, 55, 68]) (len := 36) (off := 36) (by decide +kernel) (by decide) (by decide) (by decide)
theorem i126_132_2 : m_G 126 132 L (.int 2 :: st) μ = m_G 126 174 L st μ := g_tab (dd := 82) (lo := 1) (hi := 5) (offs := #[36, 42, 49, 55, 68]) (len := 36) (off := 42) (by decide +kernel) (by decide) (by decide) (by decide)
theorem i126_132_3 : m_G 126 132 L (.int 3 :: st) μ = m_G 126 181 L st μ := g_tab (dd := 82) (lo := 1) (hi := 5) (offs := #[36, 42, 49, 55, 68]) (len := 36) (off := 49) (by decide +kernel) (by decide) (by decide) (by decide)
theorem i126_132_4 : m_G 126 132 L (.int 4 :: st) μ = m_G 126 187 L st μ := g_tab (dd := 82) (lo := 1) (hi := 5) (offs := #[36, 42, 49, 55, 68]) (len := 36) (off := 55) (by decide +kernel) (by decide) (by decide) (by decide)
theorem i126_132_5 : m_G 126 132 L (.int 5 :: st) μ = m_G 126 200 L st μ := g_tab (dd := 82) (lo := 1) (hi := 5) (offs := #[36, 42, 49, 55, 68]) (len := 36) (off := 68) (by decide +kernel) (by decide) (by decide) (by decide)
theorem i126_132_d (h : x0.toInt < 1 ∨ 5 < x0.toInt) : m_G 126 132 L (.int x0 :: st) μ = m_G 126 214 L st μ := g_tabO (dd := 82) (lo := 1) (hi := 5) (offs := #[36, 42, 49, 55, 68]) (len := 36) (by decide +kernel) h (by decide)
theorem i126_168 : m_G 126 168 [v0, v1, v2, v3, .int x0, v5, v6, v7, v8] st μ = m_G 126 170 [v0, v1, v2, v3, .int x0, v5, v6, v7, v8] (.int x0 :: st) μ := g_iload (i := 4) (by decide +kernel) rfl
theorem i126_170 : m_G 126 170 [v0, v1, v2, v3, v4, v5, .int x0, v7, v8] st μ = m_G 126 172 [v0, v1, v2, v3, v4, v5, .int x0, v7, v8] (.int x0 :: st) μ := g_iload (i := 6) (by decide +kernel) rfl
theorem i126_172 : m_G 126 172 L (.int x1 :: .int x0 :: st) μ = m_G 126 173 L (.int (x0 &&& x1) :: st) μ := g_iand (by decide +kernel)
theorem i126_173 : m_G 126 173 L [.int x0] μ = some (some (.int x0), μ) := g_ireti (by decide +kernel) (by decide)
theorem i126_174 : m_G 126 174 [v0, v1, v2, v3, .int x0, v5, v6, v7, v8] st μ = m_G 126 176 [v0, v1, v2, v3, .int x0, v5, v6, v7, v8] (.int x0 :: st) μ := g_iload (i := 4) (by decide +kernel) rfl
theorem i126_176 : m_G 126 176 [v0, v1, v2, v3, .int x0, v5, v6, v7, v8] st μ = m_G 126 178 [v0, v1, v2, v3, .int x0, v5, v6, v7, v8] (.int x0 :: st) μ := g_iload (i := 4) (by decide +kernel) rfl
theorem i126_178 : m_G 126 178 L (.int x0 :: st) μ = m_G 126 179 L (.int (-x0) :: st) μ := g_ineg (by decide +kernel)
theorem i126_179 : m_G 126 179 L (.int x1 :: .int x0 :: st) μ = m_G 126 180 L (.int (x0 &&& x1) :: st) μ := g_iand (by decide +kernel)
theorem i126_180 : m_G 126 180 L [.int x0] μ = some (some (.int x0), μ) := g_ireti (by decide +kernel) (by decide)
theorem i126_181 : m_G 126 181 [v0, v1, v2, v3, .int x0, v5, v6, v7, v8] st μ = m_G 126 183 [v0, v1, v2, v3, .int x0, v5, v6, v7, v8] (.int x0 :: st) μ := g_iload (i := 4) (by decide +kernel) rfl
theorem i126_183 : m_G 126 183 [v0, v1, v2, v3, v4, v5, v6, .int x0, v8] st μ = m_G 126 185 [v0, v1, v2, v3, v4, v5, v6, .int x0, v8] (.int x0 :: st) μ := g_iload (i := 7) (by decide +kernel) rfl
theorem i126_185 : m_G 126 185 L (.int x1 :: .int x0 :: st) μ = m_G 126 186 L (.int (x0 &&& x1) :: st) μ := g_iand (by decide +kernel)
theorem i126_186 : m_G 126 186 L [.int x0] μ = some (some (.int x0), μ) := g_ireti (by decide +kernel) (by decide)
theorem i126_187 : m_G 126 187 [v0, v1, v2, v3, .int x0, v5, v6, v7, v8] st μ = m_G 126 189 [v0, v1, v2, v3, .int x0, v5, v6, v7, v8] (.int x0 :: st) μ := g_iload (i := 4) (by decide +kernel) rfl
theorem i126_189 : m_G 126 189 [v0, v1, v2, v3, v4, v5, .int x0, v7, v8] st μ = m_G 126 191 [v0, v1, v2, v3, v4, v5, .int x0, v7, v8] (.int x0 :: st) μ := g_iload (i := 6) (by decide +kernel) rfl
theorem i126_191 : m_G 126 191 L (.int x1 :: .int x0 :: st) μ = m_G 126 192 L (.int (x0 &&& x1) :: st) μ := g_iand (by decide +kernel)
theorem i126_192 : m_G 126 192 [v0, v1, v2, v3, .int x0, v5, v6, v7, v8] st μ = m_G 126 194 [v0, v1, v2, v3, .int x0, v5, v6, v7, v8] (.int x0 :: st) μ := g_iload (i := 4) (by decide +kernel) rfl
theorem i126_194 : m_G 126 194 [v0, v1, v2, v3, v4, v5, .int x0, v7, v8] st μ = m_G 126 196 [v0, v1, v2, v3, v4, v5, .int x0, v7, v8] (.int x0 :: st) μ := g_iload (i := 6) (by decide +kernel) rfl
theorem i126_196 : m_G 126 196 L (.int x1 :: .int x0 :: st) μ = m_G 126 197 L (.int (x0 &&& x1) :: st) μ := g_iand (by decide +kernel)
theorem i126_197 : m_G 126 197 L (.int x0 :: st) μ = m_G 126 198 L (.int (-x0) :: st) μ := g_ineg (by decide +kernel)
theorem i126_198 : m_G 126 198 L (.int x1 :: .int x0 :: st) μ = m_G 126 199 L (.int (x0 &&& x1) :: st) μ := g_iand (by decide +kernel)
theorem i126_199 : m_G 126 199 L [.int x0] μ = some (some (.int x0), μ) := g_ireti (by decide +kernel) (by decide)
theorem i126_200 : m_G 126 200 [v0, v1, v2, v3, .int x0, v5, v6, v7, v8] st μ = m_G 126 202 [v0, v1, v2, v3, .int x0, v5, v6, v7, v8] (.int x0 :: st) μ := g_iload (i := 4) (by decide +kernel) rfl
theorem i126_202 : m_G 126 202 [v0, v1, v2, v3, v4, v5, .int x0, v7, v8] st μ = m_G 126 204 [v0, v1, v2, v3, v4, v5, .int x0, v7, v8] (.int x0 :: st) μ := g_iload (i := 6) (by decide +kernel) rfl
theorem i126_204 : m_G 126 204 L (.int x1 :: .int x0 :: st) μ = m_G 126 205 L (.int (x0 &&& x1) :: st) μ := g_iand (by decide +kernel)
theorem i126_205 : m_G 126 205 [v0, v1, v2, v3, .int x0, v5, v6, v7, v8] st μ = m_G 126 207 [v0, v1, v2, v3, .int x0, v5, v6, v7, v8] (.int x0 :: st) μ := g_iload (i := 4) (by decide +kernel) rfl
theorem i126_207 : m_G 126 207 [v0, v1, v2, v3, v4, v5, .int x0, v7, v8] st μ = m_G 126 209 [v0, v1, v2, v3, v4, v5, .int x0, v7, v8] (.int x0 :: st) μ := g_iload (i := 6) (by decide +kernel) rfl
theorem i126_209 : m_G 126 209 L (.int x1 :: .int x0 :: st) μ = m_G 126 210 L (.int (x0 &&& x1) :: st) μ := g_iand (by decide +kernel)
theorem i126_210 : m_G 126 210 L st μ = m_G 126 211 L (.int 1 :: st) μ := g_iconst (n := 1) (by decide +kernel) (by decide)
theorem i126_211 : m_G 126 211 L (.int x1 :: .int x0 :: st) μ = m_G 126 212 L (.int (x0 - x1) :: st) μ := g_isub (by decide +kernel)
theorem i126_212 : m_G 126 212 L (.int x1 :: .int x0 :: st) μ = m_G 126 213 L (.int (x0 &&& x1) :: st) μ := g_iand (by decide +kernel)
theorem i126_213 : m_G 126 213 L [.int x0] μ = some (some (.int x0), μ) := g_ireti (by decide +kernel) (by decide)
theorem i126_214 : m_G 126 214 [v0, v1, v2, v3, .int x0, v5, v6, v7, v8] st μ = m_G 126 216 [v0, v1, v2, v3, .int x0, v5, v6, v7, v8] (.int x0 :: st) μ := g_iload (i := 4) (by decide +kernel) rfl
theorem i126_216 : m_G 126 216 L [.int x0] μ = some (some (.int x0), μ) := g_ireti (by decide +kernel) (by decide)
theorem D126 : m_D 126 [.ref a0, .int x0, .int x1, .int x2] μ = m_G 126 0 [.ref a0, .int x0, .int x1, .int x2, m_d, m_d, m_d, m_d, m_d] [] μ := d_def (by decide) rfl
theorem i127_0 : m_G 127 0 [.ref a0, v1, v2] st μ = m_G 127 1 [.ref a0, v1, v2] (.ref a0 :: st) μ := g_aload_n (i := 0) (by decide +kernel) rfl
theorem i127_1 : m_G 127 1 [v0, .int x0, v2] st μ = m_G 127 2 [v0, .int x0, v2] (.int x0 :: st) μ := g_iload_n (i := 1) (by decide +kernel) rfl
theorem i127_2 : m_G 127 2 [v0, v1, .int x0] st μ = m_G 127 3 [v0, v1, .int x0] (.int x0 :: st) μ := g_iload_n (i := 2) (by decide +kernel) rfl
theorem i127_3 : m_G 127 3 L st μ = m_G 127 4 L (.int 1 :: st) μ := g_iconst (n := 1) (by decide +kernel) (by decide)
theorem i127_4 (ho : m_oc μ a0 = some 9) : m_G 127 4 L (.int x2 :: .int x1 :: .int x0 :: .ref a0 :: []) μ = b_c (m_D 126 [.ref a0, .int x0, .int x1, .int x2] μ) 127 7 L [] := g_virt (i := 184) (n := 3) (a := a0) (c := 9) (l := [(9, 126)]) (by decide +kernel) (by decide +kernel) rfl rfl (x_call_ok (ws := [1, 1, 1, 1]) (Nat.le_of_ble_eq_true rfl) rfl (by decide +kernel) rfl (by decide +kernel) rfl rfl) ho
theorem i127_7 : m_G 127 7 L [.int x0] μ = some (some (.int x0), μ) := g_ireti (by decide +kernel) (by decide)
theorem D127 : m_D 127 [.ref a0, .int x0, .int x1] μ = m_G 127 0 [.ref a0, .int x0, .int x1] [] μ := d_def (by decide) rfl
theorem i128_0 : m_G 128 0 [.ref a0, v1, v2] st μ = m_G 128 1 [.ref a0, v1, v2] (.ref a0 :: st) μ := g_aload_n (i := 0) (by decide +kernel) rfl
theorem i128_1 : m_G 128 1 [v0, .int x0, v2] st μ = m_G 128 2 [v0, .int x0, v2] (.int x0 :: st) μ := g_iload_n (i := 1) (by decide +kernel) rfl
theorem i128_2 (ho : m_oc μ a0 = some 9) : m_G 128 2 L (.int x0 :: .ref a0 :: []) μ = b_c (m_D 117 [.ref a0, .int x0] μ) 128 5 L [] := g_virt (i := 154) (n := 1) (a := a0) (c := 9) (l := [(9, 117)]) (by decide +kernel) (by decide +kernel) rfl rfl (x_call_ok (ws := [1, 1]) (Nat.le_of_ble_eq_true rfl) rfl (by decide +kernel) rfl (by decide +kernel) rfl rfl) ho
theorem i128_5 : m_G 128 5 L (.int x0 :: st) μ = if x0 = 0 then m_G 128 25 L st μ else m_G 128 8 L st μ := g_ifeq (off := 20) (by decide +kernel) (by decide)
theorem i128_8 : m_G 128 8 [.ref a0, v1, v2] st μ = m_G 128 9 [.ref a0, v1, v2] (.ref a0 :: st) μ := g_aload_n (i := 0) (by decide +kernel) rfl
theorem i128_9 : m_G 128 9 [v0, v1, .int x0] st μ = m_G 128 10 [v0, v1, .int x0] (.int x0 :: st) μ := g_iload_n (i := 2) (by decide +kernel) rfl
theorem i128_10 (ho : m_oc μ a0 = some 9) : m_G 128 10 L (.int x0 :: .ref a0 :: []) μ = b_c (m_D 105 [.ref a0, .int x0] μ) 128 13 L [] := g_virt (i := 106) (n := 1) (a := a0) (c := 9) (l := [(9, 105)]) (by decide +kernel) (by decide +kernel) rfl rfl (x_call_ok (ws := [1, 1]) (Nat.le_of_ble_eq_true rfl) rfl (by decide +kernel) rfl (by decide +kernel) rfl rfl) ho
theorem i128_13 : m_G 128 13 L (.int x0 :: st) μ = if x0 = 0 then m_G 128 25 L st μ else m_G 128 16 L st μ := g_ifeq (off := 12) (by decide +kernel) (by decide)
theorem i128_16 : m_G 128 16 [.ref a0, v1, v2] st μ = m_G 128 17 [.ref a0, v1, v2] (.ref a0 :: st) μ := g_aload_n (i := 0) (by decide +kernel) rfl
theorem i128_17 : m_G 128 17 [v0, .int x0, v2] st μ = m_G 128 18 [v0, .int x0, v2] (.int x0 :: st) μ := g_iload_n (i := 1) (by decide +kernel) rfl
theorem i128_18 : m_G 128 18 [v0, v1, .int x0] st μ = m_G 128 19 [v0, v1, .int x0] (.int x0 :: st) μ := g_iload_n (i := 2) (by decide +kernel) rfl
theorem i128_19 (ho : m_oc μ a0 = some 9) : m_G 128 19 L (.int x1 :: .int x0 :: .ref a0 :: []) μ = b_c (m_D 127 [.ref a0, .int x0, .int x1] μ) 128 22 L [] := g_virt (i := 187) (n := 2) (a := a0) (c := 9) (l := [(9, 127)]) (by decide +kernel) (by decide +kernel) rfl rfl (x_call_ok (ws := [1, 1, 1]) (Nat.le_of_ble_eq_true rfl) rfl (by decide +kernel) rfl (by decide +kernel) rfl rfl) ho
theorem i128_22 : m_G 128 22 L st μ = m_G 128 27 L st μ := g_goto (off := 5) (by decide +kernel) (by decide)
theorem i128_25 : m_G 128 25 L st μ = m_G 128 27 L (.int (-101) :: st) μ := g_bipush (n := -101) (by decide +kernel) (by decide)
theorem i128_27 : m_G 128 27 L [.int x0] μ = some (some (.int x0), μ) := g_ireti (by decide +kernel) (by decide)
theorem D128 : m_D 128 [.ref a0, .int x0, .int x1] μ = m_G 128 0 [.ref a0, .int x0, .int x1] [] μ := d_def (by decide) rfl
theorem i129_0 : m_G 129 0 [v0, .int x0, v2, v3] st μ = m_G 129 1 [v0, .int x0, v2, v3] (.int x0 :: st) μ := g_iload_n (i := 1) (by decide +kernel) rfl
theorem i129_1 : m_G 129 1 [v0, v1, v2, v3] (.int x0 :: st) μ = m_G 129 2 [v0, v1, .int x0, v3] st μ := g_istore_n (i := 2) (by decide +kernel) (Nat.le_of_ble_eq_true rfl) rfl
theorem i129_2 : m_G 129 2 L st μ = m_G 129 3 L (.int 0 :: st) μ := g_iconst (n := 0) (by decide +kernel) (by decide)
theorem i129_3 : m_G 129 3 [v0, v1, v2, v3] (.int x0 :: st) μ = m_G 129 4 [v0, v1, v2, .int x0] st μ := g_istore_n (i := 3) (by decide +kernel) (Nat.le_of_ble_eq_true rfl) rfl
theorem i129_4 : m_G 129 4 [v0, v1, v2, .int x0] st μ = m_G 129 5 [v0, v1, v2, .int x0] (.int x0 :: st) μ := g_iload_n (i := 3) (by decide +kernel) rfl
theorem i129_5 : m_G 129 5 L st μ = m_G 129 7 L (.int 24 :: st) μ := g_bipush (n := 24) (by decide +kernel) (by decide)
theorem i129_7 : m_G 129 7 L (.int x1 :: .int x0 :: st) μ = if x0 < x1 then m_G 129 10 L st μ else m_G 129 33 L st μ := g_cmpge (off := 26) (by decide +kernel) (by decide)
theorem i129_10 : m_G 129 10 [.int x0, v1, v2, v3] st μ = m_G 129 11 [.int x0, v1, v2, v3] (.int x0 :: st) μ := g_iload_n (i := 0) (by decide +kernel) rfl
theorem i129_11 : m_G 129 11 [v0, v1, v2, .int x0] st μ = m_G 129 12 [v0, v1, v2, .int x0] (.int x0 :: st) μ := g_iload_n (i := 3) (by decide +kernel) rfl
theorem i129_12 : m_G 129 12 L (.int x1 :: .int x0 :: []) μ = b_c (m_D 104 [.int x0, .int x1] μ) 129 15 L [] := g_stat (i := 172) (n := 2) (by decide +kernel) (by decide +kernel) (by decide) (x_call_ok (ws := [1, 1]) (Nat.le_of_ble_eq_true rfl) rfl (by decide +kernel) rfl (by decide +kernel) rfl rfl)
theorem i129_15 : m_G 129 15 L (.int x0 :: st) μ = if x0 = 0 then m_G 129 27 L st μ else m_G 129 18 L st μ := g_ifeq (off := 12) (by decide +kernel) (by decide)
theorem i129_18 : m_G 129 18 [v0, v1, .int x0, v3] st μ = m_G 129 19 [v0, v1, .int x0, v3] (.int x0 :: st) μ := g_iload_n (i := 2) (by decide +kernel) rfl
theorem i129_19 : m_G 129 19 L (.int x0 :: st) μ = if x0 = 0 then m_G 129 22 L st μ else m_G 129 24 L st μ := g_ifne (off := 5) (by decide +kernel) (by decide)
theorem i129_22 : m_G 129 22 [v0, v1, v2, .int x0] st μ = m_G 129 23 [v0, v1, v2, .int x0] (.int x0 :: st) μ := g_iload_n (i := 3) (by decide +kernel) rfl
theorem i129_23 : m_G 129 23 L [.int x0] μ = some (some (.int x0), μ) := g_ireti (by decide +kernel) (by decide)
theorem i129_24 : m_G 129 24 [v0, v1, .int x0, v3] st μ = m_G 129 27 [v0, v1, .int (x0 + (-1)), v3] st μ := g_iinc (i := 2) (n := -1) (by decide +kernel) rfl (by decide) rfl
theorem i129_27 : m_G 129 27 [v0, v1, v2, .int x0] st μ = m_G 129 30 [v0, v1, v2, .int (x0 + 1)] st μ := g_iinc (i := 3) (n := 1) (by decide +kernel) rfl (by decide) rfl
theorem i129_30 : m_G 129 30 L st μ = m_G 129 4 L st μ := g_goto (off := -26) (by decide +kernel) (by decide)
theorem i129_33 : m_G 129 33 L st μ = m_G 129 34 L (.int (-1) :: st) μ := g_iconst (n := -1) (by decide +kernel) (by decide)
theorem i129_34 : m_G 129 34 L [.int x0] μ = some (some (.int x0), μ) := g_ireti (by decide +kernel) (by decide)
theorem D129 : m_D 129 [.int x0, .int x1] μ = m_G 129 0 [.int x0, .int x1, m_d, m_d] [] μ := d_def (by decide) rfl
theorem i130_0 : m_G 130 0 [.ref a0, v1, v2, v3, v4] st μ = m_G 130 1 [.ref a0, v1, v2, v3, v4] (.ref a0 :: st) μ := g_aload_n (i := 0) (by decide +kernel) rfl
theorem i130_1 : m_G 130 1 [v0, .int x0, v2, v3, v4] st μ = m_G 130 2 [v0, .int x0, v2, v3, v4] (.int x0 :: st) μ := g_iload_n (i := 1) (by decide +kernel) rfl
theorem i130_2 (ho : m_oc μ a0 = some 9) : m_G 130 2 L (.int x0 :: .ref a0 :: []) μ = b_c (m_D 117 [.ref a0, .int x0] μ) 130 5 L [] := g_virt (i := 154) (n := 1) (a := a0) (c := 9) (l := [(9, 117)]) (by decide +kernel) (by decide +kernel) rfl rfl (x_call_ok (ws := [1, 1]) (Nat.le_of_ble_eq_true rfl) rfl (by decide +kernel) rfl (by decide +kernel) rfl rfl) ho
theorem i130_5 : m_G 130 5 L (.int x0 :: st) μ = if x0 = 0 then m_G 130 16 L st μ else m_G 130 8 L st μ := g_ifeq (off := 11) (by decide +kernel) (by decide)
theorem i130_8 : m_G 130 8 [.ref a0, v1, v2, v3, v4] st μ = m_G 130 9 [.ref a0, v1, v2, v3, v4] (.ref a0 :: st) μ := g_aload_n (i := 0) (by decide +kernel) rfl
theorem i130_9 : m_G 130 9 [v0, v1, .int x0, v3, v4] st μ = m_G 130 10 [v0, v1, .int x0, v3, v4] (.int x0 :: st) μ := g_iload_n (i := 2) (by decide +kernel) rfl
theorem i130_10 (ho : m_oc μ a0 = some 9) : m_G 130 10 L (.int x0 :: .ref a0 :: []) μ = b_c (m_D 105 [.ref a0, .int x0] μ) 130 13 L [] := g_virt (i := 106) (n := 1) (a := a0) (c := 9) (l := [(9, 105)]) (by decide +kernel) (by decide +kernel) rfl rfl (x_call_ok (ws := [1, 1]) (Nat.le_of_ble_eq_true rfl) rfl (by decide +kernel) rfl (by decide +kernel) rfl rfl) ho
theorem i130_13 : m_G 130 13 L (.int x0 :: st) μ = if x0 = 0 then m_G 130 16 L st μ else m_G 130 19 L st μ := g_ifne (off := 6) (by decide +kernel) (by decide)
theorem i130_16 : m_G 130 16 L st μ = m_G 130 18 L (.int (-101) :: st) μ := g_bipush (n := -101) (by decide +kernel) (by decide)
theorem i130_18 : m_G 130 18 L [.int x0] μ = some (some (.int x0), μ) := g_ireti (by decide +kernel) (by decide)
theorem i130_19 : m_G 130 19 [.ref a0, v1, v2, v3, v4] st μ = m_G 130 20 [.ref a0, v1, v2, v3, v4] (.ref a0 :: st) μ := g_aload_n (i := 0) (by decide +kernel) rfl
theorem i130_20 : m_G 130 20 [v0, .int x0, v2, v3, v4] st μ = m_G 130 21 [v0, .int x0, v2, v3, v4] (.int x0 :: st) μ := g_iload_n (i := 1) (by decide +kernel) rfl
theorem i130_21 : m_G 130 21 [v0, v1, .int x0, v3, v4] st μ = m_G 130 22 [v0, v1, .int x0, v3, v4] (.int x0 :: st) μ := g_iload_n (i := 2) (by decide +kernel) rfl
theorem i130_22 (ho : m_oc μ a0 = some 9) : m_G 130 22 L (.int x1 :: .int x0 :: .ref a0 :: []) μ = b_c (m_D 127 [.ref a0, .int x0, .int x1] μ) 130 25 L [] := g_virt (i := 187) (n := 2) (a := a0) (c := 9) (l := [(9, 127)]) (by decide +kernel) (by decide +kernel) rfl rfl (x_call_ok (ws := [1, 1, 1]) (Nat.le_of_ble_eq_true rfl) rfl (by decide +kernel) rfl (by decide +kernel) rfl rfl) ho
theorem i130_25 : m_G 130 25 [v0, v1, v2, .int x0, v4] st μ = m_G 130 26 [v0, v1, v2, .int x0, v4] (.int x0 :: st) μ := g_iload_n (i := 3) (by decide +kernel) rfl
theorem i130_26 : m_G 130 26 L (.int x1 :: .int x0 :: []) μ = b_c (m_D 129 [.int x0, .int x1] μ) 130 29 L [] := g_stat (i := 190) (n := 2) (by decide +kernel) (by decide +kernel) (by decide) (x_call_ok (ws := [1, 1]) (Nat.le_of_ble_eq_true rfl) rfl (by decide +kernel) rfl (by decide +kernel) rfl rfl)
theorem i130_29 : m_G 130 29 [v0, v1, v2, v3, v4] (.int x0 :: st) μ = m_G 130 31 [v0, v1, v2, v3, .int x0] st μ := g_istore (i := 4) (by decide +kernel) (Nat.le_of_ble_eq_true rfl) rfl
theorem i130_31 : m_G 130 31 [v0, v1, v2, v3, .int x0] st μ = m_G 130 33 [v0, v1, v2, v3, .int x0] (.int x0 :: st) μ := g_iload (i := 4) (by decide +kernel) rfl
theorem i130_33 : m_G 130 33 L st μ = m_G 130 34 L (.int (-1) :: st) μ := g_iconst (n := -1) (by decide +kernel) (by decide)
theorem i130_34 : m_G 130 34 L (.int x1 :: .int x0 :: st) μ = if x0 = x1 then m_G 130 37 L st μ else m_G 130 42 L st μ := g_cmpne (off := 8) (by decide +kernel) (by decide)
theorem i130_37 : m_G 130 37 L st μ = m_G 130 39 L (.int (-2) :: st) μ := g_bipush (n := -2) (by decide +kernel) (by decide)
theorem i130_39 : m_G 130 39 L st μ = m_G 130 54 L st μ := g_goto (off := 15) (by decide +kernel) (by decide)
theorem i130_42 : m_G 130 42 [.ref a0, v1, v2, v3, v4] st μ = m_G 130 43 [.ref a0, v1, v2, v3, v4] (.ref a0 :: st) μ := g_aload_n (i := 0) (by decide +kernel) rfl
theorem i130_43 : m_G 130 43 L (.ref a0 :: st) μ = b_v (m_gf μ a0 9 3) 130 46 L st μ := g_getf (i := 16) (by decide +kernel) (by decide +kernel)
theorem i130_46 : m_G 130 46 L st μ = m_G 130 48 L (.int 24 :: st) μ := g_bipush (n := 24) (by decide +kernel) (by decide)
theorem i130_48 : m_G 130 48 [v0, v1, .int x0, v3, v4] st μ = m_G 130 49 [v0, v1, .int x0, v3, v4] (.int x0 :: st) μ := g_iload_n (i := 2) (by decide +kernel) rfl
theorem i130_49 : m_G 130 49 L (.int x1 :: .int x0 :: st) μ = m_G 130 50 L (.int (x0 * x1) :: st) μ := g_imul (by decide +kernel)
theorem i130_50 : m_G 130 50 [v0, v1, v2, v3, .int x0] st μ = m_G 130 52 [v0, v1, v2, v3, .int x0] (.int x0 :: st) μ := g_iload (i := 4) (by decide +kernel) rfl
theorem i130_52 : m_G 130 52 L (.int x1 :: .int x0 :: st) μ = m_G 130 53 L (.int (x0 + x1) :: st) μ := g_iadd (by decide +kernel)
theorem i130_53 : m_G 130 53 L (.int x0 :: .ref a0 :: st) μ = b_i (m_ga μ a0 x0) 130 54 L st μ := g_iald (by decide +kernel)
theorem i130_54 : m_G 130 54 L [.int x0] μ = some (some (.int x0), μ) := g_ireti (by decide +kernel) (by decide)
theorem D130 : m_D 130 [.ref a0, .int x0, .int x1, .int x2] μ = m_G 130 0 [.ref a0, .int x0, .int x1, .int x2, m_d] [] μ := d_def (by decide) rfl
theorem i131_0 : m_G 131 0 [.ref a0, v1, v2, v3] st μ = m_G 131 1 [.ref a0, v1, v2, v3] (.ref a0 :: st) μ := g_aload_n (i := 0) (by decide +kernel) rfl
theorem i131_1 : m_G 131 1 [v0, .int x0, v2, v3] st μ = m_G 131 2 [v0, .int x0, v2, v3] (.int x0 :: st) μ := g_iload_n (i := 1) (by decide +kernel) rfl
theorem i131_2 (ho : m_oc μ a0 = some 9) : m_G 131 2 L (.int x0 :: .ref a0 :: []) μ = b_c (m_D 117 [.ref a0, .int x0] μ) 131 5 L [] := g_virt (i := 154) (n := 1) (a := a0) (c := 9) (l := [(9, 117)]) (by decide +kernel) (by decide +kernel) rfl rfl (x_call_ok (ws := [1, 1]) (Nat.le_of_ble_eq_true rfl) rfl (by decide +kernel) rfl (by decide +kernel) rfl rfl) ho
theorem i131_5 : m_G 131 5 L (.int x0 :: st) μ = if x0 = 0 then m_G 131 29 L st μ else m_G 131 8 L st μ := g_ifeq (off := 24) (by decide +kernel) (by decide)
theorem i131_8 : m_G 131 8 [.ref a0, v1, v2, v3] st μ = m_G 131 9 [.ref a0, v1, v2, v3] (.ref a0 :: st) μ := g_aload_n (i := 0) (by decide +kernel) rfl
theorem i131_9 : m_G 131 9 [v0, v1, .int x0, v3] st μ = m_G 131 10 [v0, v1, .int x0, v3] (.int x0 :: st) μ := g_iload_n (i := 2) (by decide +kernel) rfl
theorem i131_10 : m_G 131 10 [v0, v1, v2, .int x0] st μ = m_G 131 11 [v0, v1, v2, .int x0] (.int x0 :: st) μ := g_iload_n (i := 3) (by decide +kernel) rfl
theorem i131_11 (ho : m_oc μ a0 = some 9) : m_G 131 11 L (.int x1 :: .int x0 :: .ref a0 :: []) μ = b_c (m_D 106 [.ref a0, .int x0, .int x1] μ) 131 14 L [] := g_virt (i := 164) (n := 2) (a := a0) (c := 9) (l := [(9, 106)]) (by decide +kernel) (by decide +kernel) rfl rfl (x_call_ok (ws := [1, 1, 1]) (Nat.le_of_ble_eq_true rfl) rfl (by decide +kernel) rfl (by decide +kernel) rfl rfl) ho
theorem i131_14 : m_G 131 14 L (.int x0 :: st) μ = if x0 = 0 then m_G 131 29 L st μ else m_G 131 17 L st μ := g_ifeq (off := 15) (by decide +kernel) (by decide)
theorem i131_17 : m_G 131 17 [.ref a0, v1, v2, v3] st μ = m_G 131 18 [.ref a0, v1, v2, v3] (.ref a0 :: st) μ := g_aload_n (i := 0) (by decide +kernel) rfl
theorem i131_18 : m_G 131 18 [v0, .int x0, v2, v3] st μ = m_G 131 19 [v0, .int x0, v2, v3] (.int x0 :: st) μ := g_iload_n (i := 1) (by decide +kernel) rfl
theorem i131_19 : m_G 131 19 [v0, v1, .int x0, v3] st μ = m_G 131 20 [v0, v1, .int x0, v3] (.int x0 :: st) μ := g_iload_n (i := 2) (by decide +kernel) rfl
theorem i131_20 : m_G 131 20 L st μ = m_G 131 21 L (.int 1 :: st) μ := g_iconst (n := 1) (by decide +kernel) (by decide)
theorem i131_21 : m_G 131 21 [v0, v1, v2, .int x0] st μ = m_G 131 22 [v0, v1, v2, .int x0] (.int x0 :: st) μ := g_iload_n (i := 3) (by decide +kernel) rfl
theorem i131_22 : m_G 131 22 L (.int x1 :: .int x0 :: st) μ = m_G 131 23 L (.int (x0 <<< (x1 &&& 31)) :: st) μ := g_ishl (by decide +kernel)
theorem i131_23 (ho : m_oc μ a0 = some 9) : m_G 131 23 L (.int x2 :: .int x1 :: .int x0 :: .ref a0 :: []) μ = b_c (m_D 126 [.ref a0, .int x0, .int x1, .int x2] μ) 131 26 L [] := g_virt (i := 184) (n := 3) (a := a0) (c := 9) (l := [(9, 126)]) (by decide +kernel) (by decide +kernel) rfl rfl (x_call_ok (ws := [1, 1, 1, 1]) (Nat.le_of_ble_eq_true rfl) rfl (by decide +kernel) rfl (by decide +kernel) rfl rfl) ho
theorem i131_26 : m_G 131 26 L st μ = m_G 131 31 L st μ := g_goto (off := 5) (by decide +kernel) (by decide)
theorem i131_29 : m_G 131 29 L st μ = m_G 131 31 L (.int (-101) :: st) μ := g_bipush (n := -101) (by decide +kernel) (by decide)
theorem i131_31 : m_G 131 31 L [.int x0] μ = some (some (.int x0), μ) := g_ireti (by decide +kernel) (by decide)
theorem D131 : m_D 131 [.ref a0, .int x0, .int x1, .int x2] μ = m_G 131 0 [.ref a0, .int x0, .int x1, .int x2] [] μ := d_def (by decide) rfl
theorem i132_0 : m_G 132 0 [.ref a0, v1, v2, v3, v4] st μ = m_G 132 1 [.ref a0, v1, v2, v3, v4] (.ref a0 :: st) μ := g_aload_n (i := 0) (by decide +kernel) rfl
theorem i132_1 : m_G 132 1 [v0, .int x0, v2, v3, v4] st μ = m_G 132 2 [v0, .int x0, v2, v3, v4] (.int x0 :: st) μ := g_iload_n (i := 1) (by decide +kernel) rfl
theorem i132_2 : m_G 132 2 [v0, v1, .int x0, v3, v4] st μ = m_G 132 3 [v0, v1, .int x0, v3, v4] (.int x0 :: st) μ := g_iload_n (i := 2) (by decide +kernel) rfl
theorem i132_3 (ho : m_oc μ a0 = some 9) : m_G 132 3 L (.int x1 :: .int x0 :: .ref a0 :: []) μ = b_c (m_D 106 [.ref a0, .int x0, .int x1] μ) 132 6 L [] := g_virt (i := 164) (n := 2) (a := a0) (c := 9) (l := [(9, 106)]) (by decide +kernel) (by decide +kernel) rfl rfl (x_call_ok (ws := [1, 1, 1]) (Nat.le_of_ble_eq_true rfl) rfl (by decide +kernel) rfl (by decide +kernel) rfl rfl) ho
theorem i132_6 : m_G 132 6 L (.int x0 :: st) μ = if x0 = 0 then m_G 132 9 L st μ else m_G 132 12 L st μ := g_ifne (off := 6) (by decide +kernel) (by decide)
theorem i132_9 : m_G 132 9 L st μ = m_G 132 11 L (.int (-101) :: st) μ := g_bipush (n := -101) (by decide +kernel) (by decide)
theorem i132_11 : m_G 132 11 L [.int x0] μ = some (some (.int x0), μ) := g_ireti (by decide +kernel) (by decide)
theorem i132_12 : m_G 132 12 [v0, v1, v2, .int x0, v4] st μ = m_G 132 13 [v0, v1, v2, .int x0, v4] (.int x0 :: st) μ := g_iload_n (i := 3) (by decide +kernel) rfl
theorem i132_13 : m_G 132 13 L (.int x0 :: st) μ = m_G 132 14 L (.long x0.toInt64 :: st) μ := g_i2l (by decide +kernel)
theorem i132_14 : m_G 132 14 L st μ = m_G 132 15 L (.long 0 :: st) μ := g_lconst (n := 0) (by decide +kernel) (by decide)
theorem i132_15 : m_G 132 15 L st μ = m_G 132 18 L (.long (2) :: st) μ := g_ldc2_w (i := 193) (by decide +kernel) (by decide +kernel)
theorem i132_18 : m_G 132 18 L (.long l2 :: .long l1 :: .long l0 :: []) μ = b_c (m_D 102 [.long l0, .long l1, .long l2] μ) 132 21 L [] := g_stat (i := 102) (n := 3) (by decide +kernel) (by decide +kernel) (by decide) (x_call_ok (ws := [2, 2, 2]) (Nat.le_of_ble_eq_true rfl) rfl (by decide +kernel) rfl (by decide +kernel) rfl rfl)
theorem i132_21 : m_G 132 21 L (.int x0 :: st) μ = if x0 = 0 then m_G 132 24 L st μ else m_G 132 27 L st μ := g_ifne (off := 6) (by decide +kernel) (by decide)
theorem i132_24 : m_G 132 24 L st μ = m_G 132 26 L (.int (-102) :: st) μ := g_bipush (n := -102) (by decide +kernel) (by decide)
theorem i132_26 : m_G 132 26 L [.int x0] μ = some (some (.int x0), μ) := g_ireti (by decide +kernel) (by decide)
theorem i132_27 : m_G 132 27 [.ref a0, v1, v2, v3, v4] st μ = m_G 132 28 [.ref a0, v1, v2, v3, v4] (.ref a0 :: st) μ := g_aload_n (i := 0) (by decide +kernel) rfl
theorem i132_28 : m_G 132 28 L (.ref a0 :: st) μ = b_v (m_gf μ a0 9 5) 132 31 L st μ := g_getf (i := 22) (by decide +kernel) (by decide +kernel)
theorem i132_31 : m_G 132 31 L st μ = m_G 132 33 L (.int 24 :: st) μ := g_bipush (n := 24) (by decide +kernel) (by decide)
theorem i132_33 : m_G 132 33 [v0, .int x0, v2, v3, v4] st μ = m_G 132 34 [v0, .int x0, v2, v3, v4] (.int x0 :: st) μ := g_iload_n (i := 1) (by decide +kernel) rfl
theorem i132_34 : m_G 132 34 L (.int x1 :: .int x0 :: st) μ = m_G 132 35 L (.int (x0 * x1) :: st) μ := g_imul (by decide +kernel)
theorem i132_35 : m_G 132 35 [v0, v1, .int x0, v3, v4] st μ = m_G 132 36 [v0, v1, .int x0, v3, v4] (.int x0 :: st) μ := g_iload_n (i := 2) (by decide +kernel) rfl
theorem i132_36 : m_G 132 36 L (.int x1 :: .int x0 :: st) μ = m_G 132 37 L (.int (x0 + x1) :: st) μ := g_iadd (by decide +kernel)
theorem i132_37 : m_G 132 37 L (.int x0 :: .ref a0 :: st) μ = b_i (m_ga μ a0 x0) 132 38 L st μ := g_iald (by decide +kernel)
theorem i132_38 : m_G 132 38 [v0, v1, v2, v3, v4] (.int x0 :: st) μ = m_G 132 40 [v0, v1, v2, v3, .int x0] st μ := g_istore (i := 4) (by decide +kernel) (Nat.le_of_ble_eq_true rfl) rfl
theorem i132_40 : m_G 132 40 [.ref a0, v1, v2, v3, v4] st μ = m_G 132 41 [.ref a0, v1, v2, v3, v4] (.ref a0 :: st) μ := g_aload_n (i := 0) (by decide +kernel) rfl
theorem i132_41 : m_G 132 41 L (.ref a0 :: st) μ = b_v (m_gf μ a0 9 5) 132 44 L st μ := g_getf (i := 22) (by decide +kernel) (by decide +kernel)
theorem i132_44 : m_G 132 44 L st μ = m_G 132 46 L (.int 24 :: st) μ := g_bipush (n := 24) (by decide +kernel) (by decide)
theorem i132_46 : m_G 132 46 [v0, .int x0, v2, v3, v4] st μ = m_G 132 47 [v0, .int x0, v2, v3, v4] (.int x0 :: st) μ := g_iload_n (i := 1) (by decide +kernel) rfl
theorem i132_47 : m_G 132 47 L (.int x1 :: .int x0 :: st) μ = m_G 132 48 L (.int (x0 * x1) :: st) μ := g_imul (by decide +kernel)
theorem i132_48 : m_G 132 48 [v0, v1, .int x0, v3, v4] st μ = m_G 132 49 [v0, v1, .int x0, v3, v4] (.int x0 :: st) μ := g_iload_n (i := 2) (by decide +kernel) rfl
theorem i132_49 : m_G 132 49 L (.int x1 :: .int x0 :: st) μ = m_G 132 50 L (.int (x0 + x1) :: st) μ := g_iadd (by decide +kernel)
theorem i132_50 : m_G 132 50 [v0, v1, v2, .int x0, v4] st μ = m_G 132 51 [v0, v1, v2, .int x0, v4] (.int x0 :: st) μ := g_iload_n (i := 3) (by decide +kernel) rfl
theorem i132_51 : m_G 132 51 L (.int x1 :: .int x0 :: .ref a0 :: st) μ = b_m (m_pa μ a0 x0 x1) 132 52 L st := g_iast (by decide +kernel)
theorem i132_52 : m_G 132 52 [v0, v1, v2, v3, .int x0] st μ = m_G 132 54 [v0, v1, v2, v3, .int x0] (.int x0 :: st) μ := g_iload (i := 4) (by decide +kernel) rfl
theorem i132_54 : m_G 132 54 L [.int x0] μ = some (some (.int x0), μ) := g_ireti (by decide +kernel) (by decide)
theorem D132 : m_D 132 [.ref a0, .int x0, .int x1, .int x2] μ = m_G 132 0 [.ref a0, .int x0, .int x1, .int x2, m_d] [] μ := d_def (by decide) rfl
theorem i133_0 : m_G 133 0 [.ref a0, v1, v2, v3] st μ = m_G 133 1 [.ref a0, v1, v2, v3] (.ref a0 :: st) μ := g_aload_n (i := 0) (by decide +kernel) rfl
theorem i133_1 : m_G 133 1 [v0, .int x0, v2, v3] st μ = m_G 133 2 [v0, .int x0, v2, v3] (.int x0 :: st) μ := g_iload_n (i := 1) (by decide +kernel) rfl
theorem i133_2 (ho : m_oc μ a0 = some 9) : m_G 133 2 L (.int x0 :: .ref a0 :: []) μ = b_c (m_D 105 [.ref a0, .int x0] μ) 133 5 L [] := g_virt (i := 106) (n := 1) (a := a0) (c := 9) (l := [(9, 105)]) (by decide +kernel) (by decide +kernel) rfl rfl (x_call_ok (ws := [1, 1]) (Nat.le_of_ble_eq_true rfl) rfl (by decide +kernel) rfl (by decide +kernel) rfl rfl) ho
theorem i133_5 : m_G 133 5 L (.int x0 :: st) μ = if x0 = 0 then m_G 133 8 L st μ else m_G 133 11 L st μ := g_ifne (off := 6) (by decide +kernel) (by decide)
theorem i133_8 : m_G 133 8 L st μ = m_G 133 10 L (.int (-101) :: st) μ := g_bipush (n := -101) (by decide +kernel) (by decide)
theorem i133_10 : m_G 133 10 L [.int x0] μ = some (some (.int x0), μ) := g_ireti (by decide +kernel) (by decide)
theorem i133_11 : m_G 133 11 [.ref a0, v1, v2, v3] st μ = m_G 133 12 [.ref a0, v1, v2, v3] (.ref a0 :: st) μ := g_aload_n (i := 0) (by decide +kernel) rfl
theorem i133_12 : m_G 133 12 L (.ref a0 :: st) μ = b_v (m_gf μ a0 9 6) 133 15 L st μ := g_getf (i := 25) (by decide +kernel) (by decide +kernel)
theorem i133_15 : m_G 133 15 [v0, .int x0, v2, v3] st μ = m_G 133 16 [v0, .int x0, v2, v3] (.int x0 :: st) μ := g_iload_n (i := 1) (by decide +kernel) rfl
theorem i133_16 : m_G 133 16 L (.int x0 :: .ref a0 :: st) μ = b_i (m_gb μ a0 x0) 133 17 L st μ := g_bald (by decide +kernel)
theorem i133_17 : m_G 133 17 L (.int x0 :: st) μ = if x0 = 0 then m_G 133 24 L st μ else m_G 133 20 L st μ := g_ifeq (off := 7) (by decide +kernel) (by decide)
theorem i133_20 : m_G 133 20 L st μ = m_G 133 21 L (.int 1 :: st) μ := g_iconst (n := 1) (by decide +kernel) (by decide)
theorem i133_21 : m_G 133 21 L st μ = m_G 133 25 L st μ := g_goto (off := 4) (by decide +kernel) (by decide)
theorem i133_24 : m_G 133 24 L st μ = m_G 133 25 L (.int 0 :: st) μ := g_iconst (n := 0) (by decide +kernel) (by decide)
theorem i133_25 : m_G 133 25 [v0, v1, v2, v3] (.int x0 :: st) μ = m_G 133 26 [v0, v1, v2, .int x0] st μ := g_istore_n (i := 3) (by decide +kernel) (Nat.le_of_ble_eq_true rfl) rfl
theorem i133_26 : m_G 133 26 [.ref a0, v1, v2, v3] st μ = m_G 133 27 [.ref a0, v1, v2, v3] (.ref a0 :: st) μ := g_aload_n (i := 0) (by decide +kernel) rfl
theorem i133_27 : m_G 133 27 L (.ref a0 :: st) μ = b_v (m_gf μ a0 9 6) 133 30 L st μ := g_getf (i := 25) (by decide +kernel) (by decide +kernel)
theorem i133_30 : m_G 133 30 [v0, .int x0, v2, v3] st μ = m_G 133 31 [v0, .int x0, v2, v3] (.int x0 :: st) μ := g_iload_n (i := 1) (by decide +kernel) rfl
theorem i133_31 : m_G 133 31 [v0, v1, .int x0, v3] st μ = m_G 133 32 [v0, v1, .int x0, v3] (.int x0 :: st) μ := g_iload_n (i := 2) (by decide +kernel) rfl
theorem i133_32 : m_G 133 32 L (.int x1 :: .int x0 :: .ref a0 :: st) μ = b_m (m_pb μ a0 x0 x1) 133 33 L st := g_bast (by decide +kernel)
theorem i133_33 : m_G 133 33 [v0, v1, v2, .int x0] st μ = m_G 133 34 [v0, v1, v2, .int x0] (.int x0 :: st) μ := g_iload_n (i := 3) (by decide +kernel) rfl
theorem i133_34 : m_G 133 34 L [.int x0] μ = some (some (.int x0), μ) := g_ireti (by decide +kernel) (by decide)
theorem D133 : m_D 133 [.ref a0, .int x0, .int x1] μ = m_G 133 0 [.ref a0, .int x0, .int x1, m_d] [] μ := d_def (by decide) rfl
theorem i134_0 : m_G 134 0 L st μ = m_G 134 1 L (.int 0 :: st) μ := g_iconst (n := 0) (by decide +kernel) (by decide)
theorem i134_1 : m_G 134 1 [v0, v1, v2, v3, v4] (.int x0 :: st) μ = m_G 134 2 [v0, v1, v2, .int x0, v4] st μ := g_istore_n (i := 3) (by decide +kernel) (Nat.le_of_ble_eq_true rfl) rfl
theorem i134_2 : m_G 134 2 L st μ = m_G 134 3 L (.int 0 :: st) μ := g_iconst (n := 0) (by decide +kernel) (by decide)
theorem i134_3 : m_G 134 3 [v0, v1, v2, v3, v4] (.int x0 :: st) μ = m_G 134 5 [v0, v1, v2, v3, .int x0] st μ := g_istore (i := 4) (by decide +kernel) (Nat.le_of_ble_eq_true rfl) rfl
theorem i134_5 : m_G 134 5 [v0, v1, v2, v3, .int x0] st μ = m_G 134 7 [v0, v1, v2, v3, .int x0] (.int x0 :: st) μ := g_iload (i := 4) (by decide +kernel) rfl
theorem i134_7 : m_G 134 7 [.ref a0, v1, v2, v3, v4] st μ = m_G 134 8 [.ref a0, v1, v2, v3, v4] (.ref a0 :: st) μ := g_aload_n (i := 0) (by decide +kernel) rfl
theorem i134_8 : m_G 134 8 L (.ref a0 :: st) μ = b_v (m_gf μ a0 9 1) 134 11 L st μ := g_getf (i := 7) (by decide +kernel) (by decide +kernel)
theorem i134_11 : m_G 134 11 [v0, .int x0, v2, v3, v4] st μ = m_G 134 12 [v0, .int x0, v2, v3, v4] (.int x0 :: st) μ := g_iload_n (i := 1) (by decide +kernel) rfl
theorem i134_12 : m_G 134 12 L (.int x0 :: .ref a0 :: st) μ = b_i (m_ga μ a0 x0) 134 13 L st μ := g_iald (by decide +kernel)
theorem i134_13 : m_G 134 13 L (.int x1 :: .int x0 :: st) μ = if x0 < x1 then m_G 134 16 L st μ else m_G 134 49 L st μ := g_cmpge (off := 36) (by decide +kernel) (by decide)
theorem i134_16 : m_G 134 16 [v0, v1, v2, .int x0, v4] st μ = m_G 134 17 [v0, v1, v2, .int x0, v4] (.int x0 :: st) μ := g_iload_n (i := 3) (by decide +kernel) rfl
theorem i134_17 : m_G 134 17 [.ref a0, v1, v2, v3, v4] st μ = m_G 134 18 [.ref a0, v1, v2, v3, v4] (.ref a0 :: st) μ := g_aload_n (i := 0) (by decide +kernel) rfl
theorem i134_18 : m_G 134 18 L (.ref a0 :: st) μ = b_v (m_gf μ a0 9 5) 134 21 L st μ := g_getf (i := 22) (by decide +kernel) (by decide +kernel)
theorem i134_21 : m_G 134 21 L st μ = m_G 134 23 L (.int 24 :: st) μ := g_bipush (n := 24) (by decide +kernel) (by decide)
theorem i134_23 : m_G 134 23 [v0, .int x0, v2, v3, v4] st μ = m_G 134 24 [v0, .int x0, v2, v3, v4] (.int x0 :: st) μ := g_iload_n (i := 1) (by decide +kernel) rfl
theorem i134_24 : m_G 134 24 L (.int x1 :: .int x0 :: st) μ = m_G 134 25 L (.int (x0 * x1) :: st) μ := g_imul (by decide +kernel)
theorem i134_25 : m_G 134 25 [v0, v1, v2, v3, .int x0] st μ = m_G 134 27 [v0, v1, v2, v3, .int x0] (.int x0 :: st) μ := g_iload (i := 4) (by decide +kernel) rfl
theorem i134_27 : m_G 134 27 L (.int x1 :: .int x0 :: st) μ = m_G 134 28 L (.int (x0 + x1) :: st) μ := g_iadd (by decide +kernel)
theorem i134_28 : m_G 134 28 L (.int x0 :: .ref a0 :: st) μ = b_i (m_ga μ a0 x0) 134 29 L st μ := g_iald (by decide +kernel)
theorem i134_29 : m_G 134 29 [v0, v1, .int x0, v3, v4] st μ = m_G 134 30 [v0, v1, .int x0, v3, v4] (.int x0 :: st) μ := g_iload_n (i := 2) (by decide +kernel) rfl
theorem i134_30 : m_G 134 30 L (.int x1 :: .int x0 :: st) μ = if x0 = x1 then m_G 134 33 L st μ else m_G 134 40 L st μ := g_cmpne (off := 10) (by decide +kernel) (by decide)
theorem i134_33 : m_G 134 33 L st μ = m_G 134 34 L (.int 1 :: st) μ := g_iconst (n := 1) (by decide +kernel) (by decide)
theorem i134_34 : m_G 134 34 [v0, v1, v2, v3, .int x0] st μ = m_G 134 36 [v0, v1, v2, v3, .int x0] (.int x0 :: st) μ := g_iload (i := 4) (by decide +kernel) rfl
theorem i134_36 : m_G 134 36 L (.int x1 :: .int x0 :: st) μ = m_G 134 37 L (.int (x0 <<< (x1 &&& 31)) :: st) μ := g_ishl (by decide +kernel)
theorem i134_37 : m_G 134 37 L st μ = m_G 134 41 L st μ := g_goto (off := 4) (by decide +kernel) (by decide)
theorem i134_40 : m_G 134 40 L st μ = m_G 134 41 L (.int 0 :: st) μ := g_iconst (n := 0) (by decide +kernel) (by decide)
theorem i134_41 : m_G 134 41 L (.int x1 :: .int x0 :: st) μ = m_G 134 42 L (.int (x0 ||| x1) :: st) μ := g_ior (by decide +kernel)
theorem i134_42 : m_G 134 42 [v0, v1, v2, v3, v4] (.int x0 :: st) μ = m_G 134 43 [v0, v1, v2, .int x0, v4] st μ := g_istore_n (i := 3) (by decide +kernel) (Nat.le_of_ble_eq_true rfl) rfl
theorem i134_43 : m_G 134 43 [v0, v1, v2, v3, .int x0] st μ = m_G 134 46 [v0, v1, v2, v3, .int (x0 + 1)] st μ := g_iinc (i := 4) (n := 1) (by decide +kernel) rfl (by decide) rfl
theorem i134_46 : m_G 134 46 L st μ = m_G 134 5 L st μ := g_goto (off := -41) (by decide +kernel) (by decide)
theorem i134_49 : m_G 134 49 [v0, v1, v2, .int x0, v4] st μ = m_G 134 50 [v0, v1, v2, .int x0, v4] (.int x0 :: st) μ := g_iload_n (i := 3) (by decide +kernel) rfl
theorem i134_50 : m_G 134 50 L [.int x0] μ = some (some (.int x0), μ) := g_ireti (by decide +kernel) (by decide)
theorem D134 : m_D 134 [.ref a0, .int x0, .int x1] μ = m_G 134 0 [.ref a0, .int x0, .int x1, m_d, m_d] [] μ := d_def (by decide) rfl
theorem i135_0 : m_G 135 0 [.int x0] st μ = m_G 135 1 [.int x0] (.int x0 :: st) μ := g_iload_n (i := 0) (by decide +kernel) rfl
theorem i135_1 : m_G 135 1 L st μ = m_G 135 3 L (.int 15 :: st) μ := g_bipush (n := 15) (by decide +kernel) (by decide)
theorem i135_3 : m_G 135 3 L (.int x1 :: .int x0 :: st) μ = if x0 < x1 then m_G 135 6 L st μ else m_G 135 10 L st μ := g_cmpge (off := 7) (by decide +kernel) (by decide)
theorem i135_6 : m_G 135 6 L st μ = m_G 135 7 L (.int 1 :: st) μ := g_iconst (n := 1) (by decide +kernel) (by decide)
theorem i135_7 : m_G 135 7 L st μ = m_G 135 22 L st μ := g_goto (off := 15) (by decide +kernel) (by decide)
theorem i135_10 : m_G 135 10 [.int x0] st μ = m_G 135 11 [.int x0] (.int x0 :: st) μ := g_iload_n (i := 0) (by decide +kernel) rfl
theorem i135_11 : m_G 135 11 L st μ = m_G 135 14 L (.int 240 :: st) μ := g_sipush (n := 240) (by decide +kernel) (by decide)
theorem i135_14 : m_G 135 14 L (.int x1 :: .int x0 :: st) μ = if x0 < x1 then m_G 135 17 L st μ else m_G 135 21 L st μ := g_cmpge (off := 7) (by decide +kernel) (by decide)
theorem i135_17 : m_G 135 17 L st μ = m_G 135 18 L (.int 2 :: st) μ := g_iconst (n := 2) (by decide +kernel) (by decide)
theorem i135_18 : m_G 135 18 L st μ = m_G 135 22 L st μ := g_goto (off := 4) (by decide +kernel) (by decide)
theorem i135_21 : m_G 135 21 L st μ = m_G 135 22 L (.int 3 :: st) μ := g_iconst (n := 3) (by decide +kernel) (by decide)
theorem i135_22 : m_G 135 22 L [.int x0] μ = some (some (.int x0), μ) := g_ireti (by decide +kernel) (by decide)
theorem D135 : m_D 135 [.int x0] μ = m_G 135 0 [.int x0] [] μ := d_def (by decide) rfl
theorem i136_0 : m_G 136 0 [.int x0, v1, v2, v3, v4] st μ = m_G 136 1 [.int x0, v1, v2, v3, v4] (.int x0 :: st) μ := g_iload_n (i := 0) (by decide +kernel) rfl
theorem i136_1 : m_G 136 1 L (.int x0 :: []) μ = b_c (m_D 135 [.int x0] μ) 136 4 L [] := g_stat (i := 195) (n := 1) (by decide +kernel) (by decide +kernel) (by decide) (x_call_ok (ws := [1]) (Nat.le_of_ble_eq_true rfl) rfl (by decide +kernel) rfl (by decide +kernel) rfl rfl)
theorem i136_4 : m_G 136 4 [v0, v1, v2, v3, v4] (.int x0 :: st) μ = m_G 136 5 [v0, v1, .int x0, v3, v4] st μ := g_istore_n (i := 2) (by decide +kernel) (Nat.le_of_ble_eq_true rfl) rfl
theorem i136_5 : m_G 136 5 [v0, v1, .int x0, v3, v4] st μ = m_G 136 6 [v0, v1, .int x0, v3, v4] (.int x0 :: st) μ := g_iload_n (i := 2) (by decide +kernel) rfl
theorem i136_6 : m_G 136 6 L st μ = m_G 136 7 L (.int 1 :: st) μ := g_iconst (n := 1) (by decide +kernel) (by decide)
theorem i136_7 : m_G 136 7 L (.int x1 :: .int x0 :: st) μ = if x0 = x1 then m_G 136 10 L st μ else m_G 136 14 L st μ := g_cmpne (off := 7) (by decide +kernel) (by decide)
theorem i136_10 : m_G 136 10 [.int x0, v1, v2, v3, v4] st μ = m_G 136 11 [.int x0, v1, v2, v3, v4] (.int x0 :: st) μ := g_iload_n (i := 0) (by decide +kernel) rfl
theorem i136_11 : m_G 136 11 L st μ = m_G 136 31 L st μ := g_goto (off := 20) (by decide +kernel) (by decide)
theorem i136_14 : m_G 136 14 [v0, v1, .int x0, v3, v4] st μ = m_G 136 15 [v0, v1, .int x0, v3, v4] (.int x0 :: st) μ := g_iload_n (i := 2) (by decide +kernel) rfl
theorem i136_15 : m_G 136 15 L st μ = m_G 136 16 L (.int 2 :: st) μ := g_iconst (n := 2) (by decide +kernel) (by decide)
theorem i136_16 : m_G 136 16 L (.int x1 :: .int x0 :: st) μ = if x0 = x1 then m_G 136 19 L st μ else m_G 136 26 L st μ := g_cmpne (off := 10) (by decide +kernel) (by decide)
theorem i136_19 : m_G 136 19 [.int x0, v1, v2, v3, v4] st μ = m_G 136 20 [.int x0, v1, v2, v3, v4] (.int x0 :: st) μ := g_iload_n (i := 0) (by decide +kernel) rfl
theorem i136_20 : m_G 136 20 L st μ = m_G 136 22 L (.int 15 :: st) μ := g_bipush (n := 15) (by decide +kernel) (by decide)
theorem i136_22 : m_G 136 22 L (.int x1 :: .int x0 :: st) μ = m_G 136 23 L (.int (x0 - x1) :: st) μ := g_isub (by decide +kernel)
theorem i136_23 : m_G 136 23 L st μ = m_G 136 31 L st μ := g_goto (off := 8) (by decide +kernel) (by decide)
theorem i136_26 : m_G 136 26 [.int x0, v1, v2, v3, v4] st μ = m_G 136 27 [.int x0, v1, v2, v3, v4] (.int x0 :: st) μ := g_iload_n (i := 0) (by decide +kernel) rfl
theorem i136_27 : m_G 136 27 L st μ = m_G 136 30 L (.int 240 :: st) μ := g_sipush (n := 240) (by decide +kernel) (by decide)
theorem i136_30 : m_G 136 30 L (.int x1 :: .int x0 :: st) μ = m_G 136 31 L (.int (x0 - x1) :: st) μ := g_isub (by decide +kernel)
theorem i136_31 : m_G 136 31 [v0, v1, v2, v3, v4] (.int x0 :: st) μ = m_G 136 32 [v0, v1, v2, .int x0, v4] st μ := g_istore_n (i := 3) (by decide +kernel) (Nat.le_of_ble_eq_true rfl) rfl
theorem i136_32 : m_G 136 32 [v0, v1, .int x0, v3, v4] st μ = m_G 136 33 [v0, v1, .int x0, v3, v4] (.int x0 :: st) μ := g_iload_n (i := 2) (by decide +kernel) rfl
theorem i136_33 : m_G 136 33 L st μ = m_G 136 34 L (.int 1 :: st) μ := g_iconst (n := 1) (by decide +kernel) (by decide)
theorem i136_34 : m_G 136 34 L (.int x1 :: .int x0 :: st) μ = m_G 136 35 L (.int (x0 - x1) :: st) μ := g_isub (by decide +kernel)
theorem i136_35 : m_G 136 35 [v0, v1, v2, v3, v4] (.int x0 :: st) μ = m_G 136 37 [v0, v1, v2, v3, .int x0] st μ := g_istore (i := 4) (by decide +kernel) (Nat.le_of_ble_eq_true rfl) rfl
theorem i136_37 : m_G 136 37 [v0, v1, v2, v3, .int x0] st μ = m_G 136 39 [v0, v1, v2, v3, .int x0] (.int x0 :: st) μ := g_iload (i := 4) (by decide +kernel) rfl
theorem i136_39 : m_G 136 39 [v0, .int x0, v2, v3, v4] st μ = m_G 136 40 [v0, .int x0, v2, v3, v4] (.int x0 :: st) μ := g_iload_n (i := 1) (by decide +kernel) rfl
theorem i136_40 : m_G 136 40 L (.int x1 :: .int x0 :: st) μ = if x1 < x0 then m_G 136 43 L st μ else m_G 136 54 L st μ := g_cmple (off := 14) (by decide +kernel) (by decide)
theorem i136_43 : m_G 136 43 [v0, v1, v2, .int x0, v4] st μ = m_G 136 44 [v0, v1, v2, .int x0, v4] (.int x0 :: st) μ := g_iload_n (i := 3) (by decide +kernel) rfl
theorem i136_44 : m_G 136 44 L st μ = m_G 136 46 L (.int 15 :: st) μ := g_bipush (n := 15) (by decide +kernel) (by decide)
theorem i136_46 (hy : ¬ x1 = 0) : m_G 136 46 L (.int x1 :: .int x0 :: st) μ = m_G 136 47 L (.int (x0 / x1) :: st) μ := g_idiv (by decide +kernel) hy
theorem i136_47 : m_G 136 47 [v0, v1, v2, v3, v4] (.int x0 :: st) μ = m_G 136 48 [v0, v1, v2, .int x0, v4] st μ := g_istore_n (i := 3) (by decide +kernel) (Nat.le_of_ble_eq_true rfl) rfl
theorem i136_48 : m_G 136 48 [v0, v1, v2, v3, .int x0] st μ = m_G 136 51 [v0, v1, v2, v3, .int (x0 + (-1))] st μ := g_iinc (i := 4) (n := -1) (by decide +kernel) rfl (by decide) rfl
theorem i136_51 : m_G 136 51 L st μ = m_G 136 37 L st μ := g_goto (off := -14) (by decide +kernel) (by decide)
theorem i136_54 : m_G 136 54 [v0, .int x0, v2, v3, v4] st μ = m_G 136 55 [v0, .int x0, v2, v3, v4] (.int x0 :: st) μ := g_iload_n (i := 1) (by decide +kernel) rfl
theorem i136_55 : m_G 136 55 [v0, v1, .int x0, v3, v4] st μ = m_G 136 56 [v0, v1, .int x0, v3, v4] (.int x0 :: st) μ := g_iload_n (i := 2) (by decide +kernel) rfl
theorem i136_56 : m_G 136 56 L (.int x1 :: .int x0 :: st) μ = if x0 < x1 then m_G 136 59 L st μ else m_G 136 66 L st μ := g_cmpge (off := 10) (by decide +kernel) (by decide)
theorem i136_59 : m_G 136 59 [v0, v1, v2, .int x0, v4] st μ = m_G 136 60 [v0, v1, v2, .int x0, v4] (.int x0 :: st) μ := g_iload_n (i := 3) (by decide +kernel) rfl
theorem i136_60 : m_G 136 60 L st μ = m_G 136 62 L (.int 15 :: st) μ := g_bipush (n := 15) (by decide +kernel) (by decide)
theorem i136_62 (hy : ¬ x1 = 0) : m_G 136 62 L (.int x1 :: .int x0 :: st) μ = m_G 136 63 L (.int (x0 - x0 / x1 * x1) :: st) μ := g_irem (by decide +kernel) hy
theorem i136_63 : m_G 136 63 L st μ = m_G 136 67 L st μ := g_goto (off := 4) (by decide +kernel) (by decide)
theorem i136_66 : m_G 136 66 L st μ = m_G 136 67 L (.int (-1) :: st) μ := g_iconst (n := -1) (by decide +kernel) (by decide)
theorem i136_67 : m_G 136 67 L [.int x0] μ = some (some (.int x0), μ) := g_ireti (by decide +kernel) (by decide)
theorem D136 : m_D 136 [.int x0, .int x1] μ = m_G 136 0 [.int x0, .int x1, m_d, m_d, m_d] [] μ := d_def (by decide) rfl
theorem i137_0 : m_G 137 0 [.int x0] st μ = m_G 137 1 [.int x0] (.int x0 :: st) μ := g_iload_n (i := 0) (by decide +kernel) rfl
theorem i137_1 : m_G 137 1 L st μ = m_G 137 3 L (.int 9 :: st) μ := g_bipush (n := 9) (by decide +kernel) (by decide)
theorem i137_3 : m_G 137 3 L (.int x1 :: .int x0 :: st) μ = if x0 < x1 then m_G 137 6 L st μ else m_G 137 10 L st μ := g_cmpge (off := 7) (by decide +kernel) (by decide)
theorem i137_6 : m_G 137 6 [.int x0] st μ = m_G 137 7 [.int x0] (.int x0 :: st) μ := g_iload_n (i := 0) (by decide +kernel) rfl
theorem i137_7 : m_G 137 7 L st μ = m_G 137 25 L st μ := g_goto (off := 18) (by decide +kernel) (by decide)
theorem i137_10 : m_G 137 10 [.int x0] st μ = m_G 137 11 [.int x0] (.int x0 :: st) μ := g_iload_n (i := 0) (by decide +kernel) rfl
theorem i137_11 : m_G 137 11 L st μ = m_G 137 13 L (.int 14 :: st) μ := g_bipush (n := 14) (by decide +kernel) (by decide)
theorem i137_13 : m_G 137 13 L (.int x1 :: .int x0 :: st) μ = if x0 < x1 then m_G 137 16 L st μ else m_G 137 23 L st μ := g_cmpge (off := 10) (by decide +kernel) (by decide)
theorem i137_16 : m_G 137 16 [.int x0] st μ = m_G 137 17 [.int x0] (.int x0 :: st) μ := g_iload_n (i := 0) (by decide +kernel) rfl
theorem i137_17 : m_G 137 17 L st μ = m_G 137 19 L (.int 6 :: st) μ := g_bipush (n := 6) (by decide +kernel) (by decide)
theorem i137_19 : m_G 137 19 L (.int x1 :: .int x0 :: st) μ = m_G 137 20 L (.int (x0 + x1) :: st) μ := g_iadd (by decide +kernel)
theorem i137_20 : m_G 137 20 L st μ = m_G 137 25 L st μ := g_goto (off := 5) (by decide +kernel) (by decide)
theorem i137_23 : m_G 137 23 L st μ = m_G 137 25 L (.int 20 :: st) μ := g_bipush (n := 20) (by decide +kernel) (by decide)
theorem i137_25 : m_G 137 25 L [.int x0] μ = some (some (.int x0), μ) := g_ireti (by decide +kernel) (by decide)
theorem D137 : m_D 137 [.int x0] μ = m_G 137 0 [.int x0] [] μ := d_def (by decide) rfl
theorem i138_0 : m_G 138 0 L st μ = m_G 138 1 L (.int 0 :: st) μ := g_iconst (n := 0) (by decide +kernel) (by decide)
theorem i138_1 : m_G 138 1 [v0, v1, v2, v3] (.int x0 :: st) μ = m_G 138 2 [v0, v1, .int x0, v3] st μ := g_istore_n (i := 2) (by decide +kernel) (Nat.le_of_ble_eq_true rfl) rfl
theorem i138_2 : m_G 138 2 [v0, v1, .int x0, v3] st μ = m_G 138 3 [v0, v1, .int x0, v3] (.int x0 :: st) μ := g_iload_n (i := 2) (by decide +kernel) rfl
theorem i138_3 : m_G 138 3 L st μ = m_G 138 5 L (.int 15 :: st) μ := g_bipush (n := 15) (by decide +kernel) (by decide)
theorem i138_5 : m_G 138 5 L (.int x1 :: .int x0 :: st) μ = if x0 < x1 then m_G 138 8 L st μ else m_G 138 55 L st μ := g_cmpge (off := 50) (by decide +kernel) (by decide)
theorem i138_8 : m_G 138 8 L st μ = m_G 138 9 L (.int 0 :: st) μ := g_iconst (n := 0) (by decide +kernel) (by decide)
theorem i138_9 : m_G 138 9 [v0, v1, v2, v3] (.int x0 :: st) μ = m_G 138 10 [v0, v1, v2, .int x0] st μ := g_istore_n (i := 3) (by decide +kernel) (Nat.le_of_ble_eq_true rfl) rfl
theorem i138_10 : m_G 138 10 [v0, v1, v2, .int x0] st μ = m_G 138 11 [v0, v1, v2, .int x0] (.int x0 :: st) μ := g_iload_n (i := 3) (by decide +kernel) rfl
theorem i138_11 : m_G 138 11 [.ref a0, v1, v2, v3] st μ = m_G 138 12 [.ref a0, v1, v2, v3] (.ref a0 :: st) μ := g_aload_n (i := 0) (by decide +kernel) rfl
theorem i138_12 : m_G 138 12 L (.ref a0 :: st) μ = b_v (m_gf μ a0 9 1) 138 15 L st μ := g_getf (i := 7) (by decide +kernel) (by decide +kernel)
theorem i138_15 : m_G 138 15 [v0, .int x0, v2, v3] st μ = m_G 138 16 [v0, .int x0, v2, v3] (.int x0 :: st) μ := g_iload_n (i := 1) (by decide +kernel) rfl
theorem i138_16 : m_G 138 16 L (.int x0 :: .ref a0 :: st) μ = b_i (m_ga μ a0 x0) 138 17 L st μ := g_iald (by decide +kernel)
theorem i138_17 : m_G 138 17 L (.int x1 :: .int x0 :: st) μ = if x0 < x1 then m_G 138 20 L st μ else m_G 138 49 L st μ := g_cmpge (off := 32) (by decide +kernel) (by decide)
theorem i138_20 : m_G 138 20 [.ref a0, v1, v2, v3] st μ = m_G 138 21 [.ref a0, v1, v2, v3] (.ref a0 :: st) μ := g_aload_n (i := 0) (by decide +kernel) rfl
theorem i138_21 : m_G 138 21 L (.ref a0 :: st) μ = b_v (m_gf μ a0 9 21) 138 24 L st μ := g_getf (i := 53) (by decide +kernel) (by decide +kernel)
theorem i138_24 : m_G 138 24 L st μ = m_G 138 26 L (.int 24 :: st) μ := g_bipush (n := 24) (by decide +kernel) (by decide)
theorem i138_26 : m_G 138 26 [v0, v1, .int x0, v3] st μ = m_G 138 27 [v0, v1, .int x0, v3] (.int x0 :: st) μ := g_iload_n (i := 2) (by decide +kernel) rfl
theorem i138_27 : m_G 138 27 L (.int x1 :: .int x0 :: st) μ = m_G 138 28 L (.int (x0 * x1) :: st) μ := g_imul (by decide +kernel)
theorem i138_28 : m_G 138 28 [v0, v1, v2, .int x0] st μ = m_G 138 29 [v0, v1, v2, .int x0] (.int x0 :: st) μ := g_iload_n (i := 3) (by decide +kernel) rfl
theorem i138_29 : m_G 138 29 L (.int x1 :: .int x0 :: st) μ = m_G 138 30 L (.int (x0 + x1) :: st) μ := g_iadd (by decide +kernel)
theorem i138_30 : m_G 138 30 [.ref a0, v1, v2, v3] st μ = m_G 138 31 [.ref a0, v1, v2, v3] (.ref a0 :: st) μ := g_aload_n (i := 0) (by decide +kernel) rfl
theorem i138_31 : m_G 138 31 [v0, .int x0, v2, v3] st μ = m_G 138 32 [v0, .int x0, v2, v3] (.int x0 :: st) μ := g_iload_n (i := 1) (by decide +kernel) rfl
theorem i138_32 : m_G 138 32 L st μ = m_G 138 33 L (.int 1 :: st) μ := g_iconst (n := 1) (by decide +kernel) (by decide)
theorem i138_33 : m_G 138 33 [v0, v1, v2, .int x0] st μ = m_G 138 34 [v0, v1, v2, .int x0] (.int x0 :: st) μ := g_iload_n (i := 3) (by decide +kernel) rfl
theorem i138_34 : m_G 138 34 L (.int x1 :: .int x0 :: st) μ = m_G 138 35 L (.int (x0 <<< (x1 &&& 31)) :: st) μ := g_ishl (by decide +kernel)
theorem i138_35 : m_G 138 35 [v0, v1, .int x0, v3] st μ = m_G 138 36 [v0, v1, .int x0, v3] (.int x0 :: st) μ := g_iload_n (i := 2) (by decide +kernel) rfl
theorem i138_36 : m_G 138 36 L (.int x0 :: [.int x3, .int x4, .ref a3, .int x5, .ref a4]) μ = b_c (m_D 137 [.int x0] μ) 138 39 L [.int x3, .int x4, .ref a3, .int x5, .ref a4] := g_stat (i := 198) (n := 1) (by decide +kernel) (by decide +kernel) (by decide) (x_call_ok (ws := [1]) (Nat.le_of_ble_eq_true rfl) rfl (by decide +kernel) rfl (by decide +kernel) rfl rfl)
theorem i138_39 (ho : m_oc μ a0 = some 9) : m_G 138 39 L (.int x2 :: .int x1 :: .int x0 :: .ref a0 :: [w0, w1]) μ = b_c (m_D 123 [.ref a0, .int x0, .int x1, .int x2] μ) 138 42 L [w0, w1] := g_virt (i := 181) (n := 3) (a := a0) (c := 9) (l := [(9, 123)]) (by decide +kernel) (by decide +kernel) rfl rfl (x_call_ok (ws := [1, 1, 1, 1]) (Nat.le_of_ble_eq_true rfl) rfl (by decide +kernel) rfl (by decide +kernel) rfl rfl) ho
theorem i138_42 : m_G 138 42 L (.int x1 :: .int x0 :: .ref a0 :: st) μ = b_m (m_pa μ a0 x0 x1) 138 43 L st := g_iast (by decide +kernel)
theorem i138_43 : m_G 138 43 [v0, v1, v2, .int x0] st μ = m_G 138 46 [v0, v1, v2, .int (x0 + 1)] st μ := g_iinc (i := 3) (n := 1) (by decide +kernel) rfl (by decide) rfl
theorem i138_46 : m_G 138 46 L st μ = m_G 138 10 L st μ := g_goto (off := -36) (by decide +kernel) (by decide)
theorem i138_49 : m_G 138 49 [v0, v1, .int x0, v3] st μ = m_G 138 52 [v0, v1, .int (x0 + 1), v3] st μ := g_iinc (i := 2) (n := 1) (by decide +kernel) rfl (by decide) rfl
theorem i138_52 : m_G 138 52 L st μ = m_G 138 2 L st μ := g_goto (off := -50) (by decide +kernel) (by decide)
theorem i138_55 : m_G 138 55 L [] μ = some (none, μ) := g_ret (by decide +kernel) (by decide)
theorem D138 : m_D 138 [.ref a0, .int x0] μ = m_G 138 0 [.ref a0, .int x0, m_d, m_d] [] μ := d_def (by decide) rfl
theorem i139_0 : m_G 139 0 L st μ = m_G 139 1 L (.int 1 :: st) μ := g_iconst (n := 1) (by decide +kernel) (by decide)
theorem i139_1 : m_G 139 1 [v0, v1, v2, v3, v4, v5, v6] (.int x0 :: st) μ = m_G 139 2 [v0, v1, .int x0, v3, v4, v5, v6] st μ := g_istore_n (i := 2) (by decide +kernel) (Nat.le_of_ble_eq_true rfl) rfl
theorem i139_2 : m_G 139 2 L st μ = m_G 139 3 L (.int 0 :: st) μ := g_iconst (n := 0) (by decide +kernel) (by decide)
theorem i139_3 : m_G 139 3 [v0, v1, v2, v3, v4, v5, v6] (.int x0 :: st) μ = m_G 139 4 [v0, v1, v2, .int x0, v4, v5, v6] st μ := g_istore_n (i := 3) (by decide +kernel) (Nat.le_of_ble_eq_true rfl) rfl
theorem i139_4 : m_G 139 4 [v0, v1, v2, .int x0, v4, v5, v6] st μ = m_G 139 5 [v0, v1, v2, .int x0, v4, v5, v6] (.int x0 :: st) μ := g_iload_n (i := 3) (by decide +kernel) rfl
theorem i139_5 : m_G 139 5 [v0, .int x0, v2, v3, v4, v5, v6] st μ = m_G 139 6 [v0, .int x0, v2, v3, v4, v5, v6] (.int x0 :: st) μ := g_iload_n (i := 1) (by decide +kernel) rfl
theorem i139_6 : m_G 139 6 L (.int x0 :: [w0]) μ = b_c (m_D 135 [.int x0] μ) 139 9 L [w0] := g_stat (i := 195) (n := 1) (by decide +kernel) (by decide +kernel) (by decide) (x_call_ok (ws := [1]) (Nat.le_of_ble_eq_true rfl) rfl (by decide +kernel) rfl (by decide +kernel) rfl rfl)
theorem i139_9 : m_G 139 9 L (.int x1 :: .int x0 :: st) μ = if x0 < x1 then m_G 139 12 L st μ else m_G 139 78 L st μ := g_cmpge (off := 69) (by decide +kernel) (by decide)
theorem i139_12 : m_G 139 12 [v0, .int x0, v2, v3, v4, v5, v6] st μ = m_G 139 13 [v0, .int x0, v2, v3, v4, v5, v6] (.int x0 :: st) μ := g_iload_n (i := 1) (by decide +kernel) rfl
theorem i139_13 : m_G 139 13 [v0, v1, v2, .int x0, v4, v5, v6] st μ = m_G 139 14 [v0, v1, v2, .int x0, v4, v5, v6] (.int x0 :: st) μ := g_iload_n (i := 3) (by decide +kernel) rfl
theorem i139_14 : m_G 139 14 L (.int x1 :: .int x0 :: []) μ = b_c (m_D 136 [.int x0, .int x1] μ) 139 17 L [] := g_stat (i := 201) (n := 2) (by decide +kernel) (by decide +kernel) (by decide) (x_call_ok (ws := [1, 1]) (Nat.le_of_ble_eq_true rfl) rfl (by decide +kernel) rfl (by decide +kernel) rfl rfl)
theorem i139_17 : m_G 139 17 [v0, v1, v2, v3, v4, v5, v6] (.int x0 :: st) μ = m_G 139 19 [v0, v1, v2, v3, .int x0, v5, v6] st μ := g_istore (i := 4) (by decide +kernel) (Nat.le_of_ble_eq_true rfl) rfl
theorem i139_19 : m_G 139 19 L st μ = m_G 139 20 L (.int 0 :: st) μ := g_iconst (n := 0) (by decide +kernel) (by decide)
theorem i139_20 : m_G 139 20 [v0, v1, v2, v3, v4, v5, v6] (.int x0 :: st) μ = m_G 139 22 [v0, v1, v2, v3, v4, .int x0, v6] st μ := g_istore (i := 5) (by decide +kernel) (Nat.le_of_ble_eq_true rfl) rfl
theorem i139_22 : m_G 139 22 L st μ = m_G 139 23 L (.int 0 :: st) μ := g_iconst (n := 0) (by decide +kernel) (by decide)
theorem i139_23 : m_G 139 23 [v0, v1, v2, v3, v4, v5, v6] (.int x0 :: st) μ = m_G 139 25 [v0, v1, v2, v3, v4, v5, .int x0] st μ := g_istore (i := 6) (by decide +kernel) (Nat.le_of_ble_eq_true rfl) rfl
theorem i139_25 : m_G 139 25 [v0, v1, v2, v3, v4, v5, .int x0] st μ = m_G 139 27 [v0, v1, v2, v3, v4, v5, .int x0] (.int x0 :: st) μ := g_iload (i := 6) (by decide +kernel) rfl
theorem i139_27 : m_G 139 27 L st μ = m_G 139 29 L (.int 24 :: st) μ := g_bipush (n := 24) (by decide +kernel) (by decide)
theorem i139_29 : m_G 139 29 L (.int x1 :: .int x0 :: st) μ = if x0 < x1 then m_G 139 32 L st μ else m_G 139 69 L st μ := g_cmpge (off := 40) (by decide +kernel) (by decide)
theorem i139_32 : m_G 139 32 [v0, v1, v2, v3, v4, .int x0, v6] st μ = m_G 139 34 [v0, v1, v2, v3, v4, .int x0, v6] (.int x0 :: st) μ := g_iload (i := 5) (by decide +kernel) rfl
theorem i139_34 : m_G 139 34 [v0, v1, .int x0, v3, v4, v5, v6] st μ = m_G 139 35 [v0, v1, .int x0, v3, v4, v5, v6] (.int x0 :: st) μ := g_iload_n (i := 2) (by decide +kernel) rfl
theorem i139_35 : m_G 139 35 [v0, v1, v2, v3, v4, v5, .int x0] st μ = m_G 139 37 [v0, v1, v2, v3, v4, v5, .int x0] (.int x0 :: st) μ := g_iload (i := 6) (by decide +kernel) rfl
theorem i139_37 : m_G 139 37 L (.int x1 :: .int x0 :: [w0]) μ = b_c (m_D 104 [.int x0, .int x1] μ) 139 40 L [w0] := g_stat (i := 172) (n := 2) (by decide +kernel) (by decide +kernel) (by decide) (x_call_ok (ws := [1, 1]) (Nat.le_of_ble_eq_true rfl) rfl (by decide +kernel) rfl (by decide +kernel) rfl rfl)
theorem i139_40 : m_G 139 40 L (.int x0 :: st) μ = if x0 = 0 then m_G 139 59 L st μ else m_G 139 43 L st μ := g_ifeq (off := 19) (by decide +kernel) (by decide)
theorem i139_43 : m_G 139 43 [.ref a0, v1, v2, v3, v4, v5, v6] st μ = m_G 139 44 [.ref a0, v1, v2, v3, v4, v5, v6] (.ref a0 :: st) μ := g_aload_n (i := 0) (by decide +kernel) rfl
theorem i139_44 : m_G 139 44 L (.ref a0 :: st) μ = b_v (m_gf μ a0 9 21) 139 47 L st μ := g_getf (i := 53) (by decide +kernel) (by decide +kernel)
theorem i139_47 : m_G 139 47 L st μ = m_G 139 49 L (.int 24 :: st) μ := g_bipush (n := 24) (by decide +kernel) (by decide)
theorem i139_49 : m_G 139 49 [v0, v1, v2, v3, .int x0, v5, v6] st μ = m_G 139 51 [v0, v1, v2, v3, .int x0, v5, v6] (.int x0 :: st) μ := g_iload (i := 4) (by decide +kernel) rfl
theorem i139_51 : m_G 139 51 L (.int x1 :: .int x0 :: st) μ = m_G 139 52 L (.int (x0 * x1) :: st) μ := g_imul (by decide +kernel)
theorem i139_52 : m_G 139 52 [v0, v1, v2, v3, v4, v5, .int x0] st μ = m_G 139 54 [v0, v1, v2, v3, v4, v5, .int x0] (.int x0 :: st) μ := g_iload (i := 6) (by decide +kernel) rfl
theorem i139_54 : m_G 139 54 L (.int x1 :: .int x0 :: st) μ = m_G 139 55 L (.int (x0 + x1) :: st) μ := g_iadd (by decide +kernel)
theorem i139_55 : m_G 139 55 L (.int x0 :: .ref a0 :: st) μ = b_i (m_ga μ a0 x0) 139 56 L st μ := g_iald (by decide +kernel)
theorem i139_56 : m_G 139 56 L st μ = m_G 139 60 L st μ := g_goto (off := 4) (by decide +kernel) (by decide)
theorem i139_59 : m_G 139 59 L st μ = m_G 139 60 L (.int 0 :: st) μ := g_iconst (n := 0) (by decide +kernel) (by decide)
theorem i139_60 : m_G 139 60 L (.int x1 :: .int x0 :: st) μ = m_G 139 61 L (.int (x0 ||| x1) :: st) μ := g_ior (by decide +kernel)
theorem i139_61 : m_G 139 61 [v0, v1, v2, v3, v4, v5, v6] (.int x0 :: st) μ = m_G 139 63 [v0, v1, v2, v3, v4, .int x0, v6] st μ := g_istore (i := 5) (by decide +kernel) (Nat.le_of_ble_eq_true rfl) rfl
theorem i139_63 : m_G 139 63 [v0, v1, v2, v3, v4, v5, .int x0] st μ = m_G 139 66 [v0, v1, v2, v3, v4, v5, .int (x0 + 1)] st μ := g_iinc (i := 6) (n := 1) (by decide +kernel) rfl (by decide) rfl
theorem i139_66 : m_G 139 66 L st μ = m_G 139 25 L st μ := g_goto (off := -41) (by decide +kernel) (by decide)
theorem i139_69 : m_G 139 69 [v0, v1, v2, v3, v4, .int x0, v6] st μ = m_G 139 71 [v0, v1, v2, v3, v4, .int x0, v6] (.int x0 :: st) μ := g_iload (i := 5) (by decide +kernel) rfl
theorem i139_71 : m_G 139 71 [v0, v1, v2, v3, v4, v5, v6] (.int x0 :: st) μ = m_G 139 72 [v0, v1, .int x0, v3, v4, v5, v6] st μ := g_istore_n (i := 2) (by decide +kernel) (Nat.le_of_ble_eq_true rfl) rfl
theorem i139_72 : m_G 139 72 [v0, v1, v2, .int x0, v4, v5, v6] st μ = m_G 139 75 [v0, v1, v2, .int (x0 + 1), v4, v5, v6] st μ := g_iinc (i := 3) (n := 1) (by decide +kernel) rfl (by decide) rfl
theorem i139_75 : m_G 139 75 L st μ = m_G 139 4 L st μ := g_goto (off := -71) (by decide +kernel) (by decide)
theorem i139_78 : m_G 139 78 [v0, v1, .int x0, v3, v4, v5, v6] st μ = m_G 139 79 [v0, v1, .int x0, v3, v4, v5, v6] (.int x0 :: st) μ := g_iload_n (i := 2) (by decide +kernel) rfl
theorem i139_79 : m_G 139 79 L [.int x0] μ = some (some (.int x0), μ) := g_ireti (by decide +kernel) (by decide)
theorem D139 : m_D 139 [.ref a0, .int x0] μ = m_G 139 0 [.ref a0, .int x0, m_d, m_d, m_d, m_d, m_d] [] μ := d_def (by decide) rfl
theorem i140_0 : m_G 140 0 L st μ = m_G 140 1 L (.int 0 :: st) μ := g_iconst (n := 0) (by decide +kernel) (by decide)
theorem i140_1 : m_G 140 1 [v0, v1, v2, v3, v4, v5] (.int x0 :: st) μ = m_G 140 2 [v0, .int x0, v2, v3, v4, v5] st μ := g_istore_n (i := 1) (by decide +kernel) (Nat.le_of_ble_eq_true rfl) rfl
theorem i140_2 : m_G 140 2 [v0, .int x0, v2, v3, v4, v5] st μ = m_G 140 3 [v0, .int x0, v2, v3, v4, v5] (.int x0 :: st) μ := g_iload_n (i := 1) (by decide +kernel) rfl
theorem i140_3 : m_G 140 3 L st μ = m_G 140 6 L (.int 3615 :: st) μ := g_sipush (n := 3615) (by decide +kernel) (by decide)
theorem i140_6 : m_G 140 6 L (.int x1 :: .int x0 :: st) μ = if x0 < x1 then m_G 140 9 L st μ else m_G 140 22 L st μ := g_cmpge (off := 16) (by decide +kernel) (by decide)
theorem i140_9 : m_G 140 9 [.ref a0, v1, v2, v3, v4, v5] st μ = m_G 140 10 [.ref a0, v1, v2, v3, v4, v5] (.ref a0 :: st) μ := g_aload_n (i := 0) (by decide +kernel) rfl
theorem i140_10 : m_G 140 10 L (.ref a0 :: st) μ = b_v (m_gf μ a0 9 22) 140 13 L st μ := g_getf (i := 56) (by decide +kernel) (by decide +kernel)
theorem i140_13 : m_G 140 13 [v0, .int x0, v2, v3, v4, v5] st μ = m_G 140 14 [v0, .int x0, v2, v3, v4, v5] (.int x0 :: st) μ := g_iload_n (i := 1) (by decide +kernel) rfl
theorem i140_14 : m_G 140 14 L st μ = m_G 140 15 L (.int 1 :: st) μ := g_iconst (n := 1) (by decide +kernel) (by decide)
theorem i140_15 : m_G 140 15 L (.int x1 :: .int x0 :: .ref a0 :: st) μ = b_m (m_pb μ a0 x0 x1) 140 16 L st := g_bast (by decide +kernel)
theorem i140_16 : m_G 140 16 [v0, .int x0, v2, v3, v4, v5] st μ = m_G 140 19 [v0, .int (x0 + 1), v2, v3, v4, v5] st μ := g_iinc (i := 1) (n := 1) (by decide +kernel) rfl (by decide) rfl
theorem i140_19 : m_G 140 19 L st μ = m_G 140 2 L st μ := g_goto (off := -17) (by decide +kernel) (by decide)
theorem i140_22 : m_G 140 22 L st μ = m_G 140 23 L (.int 0 :: st) μ := g_iconst (n := 0) (by decide +kernel) (by decide)
theorem i140_23 : m_G 140 23 [v0, v1, v2, v3, v4, v5] (.int x0 :: st) μ = m_G 140 24 [v0, .int x0, v2, v3, v4, v5] st μ := g_istore_n (i := 1) (by decide +kernel) (Nat.le_of_ble_eq_true rfl) rfl
theorem i140_24 : m_G 140 24 [v0, .int x0, v2, v3, v4, v5] st μ = m_G 140 25 [v0, .int x0, v2, v3, v4, v5] (.int x0 :: st) μ := g_iload_n (i := 1) (by decide +kernel) rfl
theorem i140_25 : m_G 140 25 [.ref a0, v1, v2, v3, v4, v5] st μ = m_G 140 26 [.ref a0, v1, v2, v3, v4, v5] (.ref a0 :: st) μ := g_aload_n (i := 0) (by decide +kernel) rfl
theorem i140_26 : m_G 140 26 L (.ref a0 :: st) μ = b_v (m_gf μ a0 9 0) 140 29 L st μ := g_getf (i := 99) (by decide +kernel) (by decide +kernel)
theorem i140_29 : m_G 140 29 L (.int x1 :: .int x0 :: st) μ = if x0 < x1 then m_G 140 32 L st μ else m_G 140 148 L st μ := g_cmpge (off := 119) (by decide +kernel) (by decide)
theorem i140_32 : m_G 140 32 [.ref a0, v1, v2, v3, v4, v5] st μ = m_G 140 33 [.ref a0, v1, v2, v3, v4, v5] (.ref a0 :: st) μ := g_aload_n (i := 0) (by decide +kernel) rfl
theorem i140_33 : m_G 140 33 [v0, .int x0, v2, v3, v4, v5] st μ = m_G 140 34 [v0, .int x0, v2, v3, v4, v5] (.int x0 :: st) μ := g_iload_n (i := 1) (by decide +kernel) rfl
theorem i140_34 (ho : m_oc μ a0 = some 9) : m_G 140 34 L (.int x0 :: .ref a0 :: []) μ = b_c (m_D 138 [.ref a0, .int x0] μ) 140 37 L [] := g_virt (i := 204) (n := 1) (a := a0) (c := 9) (l := [(9, 138)]) (by decide +kernel) (by decide +kernel) rfl rfl (x_call_ok (ws := [1, 1]) (Nat.le_of_ble_eq_true rfl) rfl (by decide +kernel) rfl (by decide +kernel) rfl rfl) ho
theorem i140_37 : m_G 140 37 [.ref a0, v1, v2, v3, v4, v5] st μ = m_G 140 38 [.ref a0, v1, v2, v3, v4, v5] (.ref a0 :: st) μ := g_aload_n (i := 0) (by decide +kernel) rfl
theorem i140_38 : m_G 140 38 [v0, .int x0, v2, v3, v4, v5] st μ = m_G 140 39 [v0, .int x0, v2, v3, v4, v5] (.int x0 :: st) μ := g_iload_n (i := 1) (by decide +kernel) rfl
theorem i140_39 : m_G 140 39 L st μ = m_G 140 40 L (.int 1 :: st) μ := g_iconst (n := 1) (by decide +kernel) (by decide)
theorem i140_40 (ho : m_oc μ a0 = some 9) : m_G 140 40 L (.int x1 :: .int x0 :: .ref a0 :: []) μ = b_c (m_D 134 [.ref a0, .int x0, .int x1] μ) 140 43 L [] := g_virt (i := 207) (n := 2) (a := a0) (c := 9) (l := [(9, 134)]) (by decide +kernel) (by decide +kernel) rfl rfl (x_call_ok (ws := [1, 1, 1]) (Nat.le_of_ble_eq_true rfl) rfl (by decide +kernel) rfl (by decide +kernel) rfl rfl) ho
theorem i140_43 : m_G 140 43 [v0, v1, v2, v3, v4, v5] (.int x0 :: st) μ = m_G 140 44 [v0, v1, .int x0, v3, v4, v5] st μ := g_istore_n (i := 2) (by decide +kernel) (Nat.le_of_ble_eq_true rfl) rfl
theorem i140_44 : m_G 140 44 [.ref a0, v1, v2, v3, v4, v5] st μ = m_G 140 45 [.ref a0, v1, v2, v3, v4, v5] (.ref a0 :: st) μ := g_aload_n (i := 0) (by decide +kernel) rfl
theorem i140_45 : m_G 140 45 [v0, .int x0, v2, v3, v4, v5] st μ = m_G 140 46 [v0, .int x0, v2, v3, v4, v5] (.int x0 :: st) μ := g_iload_n (i := 1) (by decide +kernel) rfl
theorem i140_46 : m_G 140 46 L st μ = m_G 140 47 L (.int 2 :: st) μ := g_iconst (n := 2) (by decide +kernel) (by decide)
theorem i140_47 (ho : m_oc μ a0 = some 9) : m_G 140 47 L (.int x1 :: .int x0 :: .ref a0 :: []) μ = b_c (m_D 134 [.ref a0, .int x0, .int x1] μ) 140 50 L [] := g_virt (i := 207) (n := 2) (a := a0) (c := 9) (l := [(9, 134)]) (by decide +kernel) (by decide +kernel) rfl rfl (x_call_ok (ws := [1, 1, 1]) (Nat.le_of_ble_eq_true rfl) rfl (by decide +kernel) rfl (by decide +kernel) rfl rfl) ho
theorem i140_50 : m_G 140 50 [v0, v1, v2, v3, v4, v5] (.int x0 :: st) μ = m_G 140 51 [v0, v1, v2, .int x0, v4, v5] st μ := g_istore_n (i := 3) (by decide +kernel) (Nat.le_of_ble_eq_true rfl) rfl
theorem i140_51 : m_G 140 51 L st μ = m_G 140 52 L (.int 0 :: st) μ := g_iconst (n := 0) (by decide +kernel) (by decide)
theorem i140_52 : m_G 140 52 [v0, v1, v2, v3, v4, v5] (.int x0 :: st) μ = m_G 140 54 [v0, v1, v2, v3, .int x0, v5] st μ := g_istore (i := 4) (by decide +kernel) (Nat.le_of_ble_eq_true rfl) rfl
theorem i140_54 : m_G 140 54 [v0, v1, v2, v3, .int x0, v5] st μ = m_G 140 56 [v0, v1, v2, v3, .int x0, v5] (.int x0 :: st) μ := g_iload (i := 4) (by decide +kernel) rfl
theorem i140_56 : m_G 140 56 L st μ = m_G 140 59 L (.int 3615 :: st) μ := g_sipush (n := 3615) (by decide +kernel) (by decide)
theorem i140_59 : m_G 140 59 L (.int x1 :: .int x0 :: st) μ = if x0 < x1 then m_G 140 62 L st μ else m_G 140 142 L st μ := g_cmpge (off := 83) (by decide +kernel) (by decide)
theorem i140_62 : m_G 140 62 [.ref a0, v1, v2, v3, v4, v5] st μ = m_G 140 63 [.ref a0, v1, v2, v3, v4, v5] (.ref a0 :: st) μ := g_aload_n (i := 0) (by decide +kernel) rfl
theorem i140_63 : m_G 140 63 L (.ref a0 :: st) μ = b_v (m_gf μ a0 9 22) 140 66 L st μ := g_getf (i := 56) (by decide +kernel) (by decide +kernel)
theorem i140_66 : m_G 140 66 [v0, v1, v2, v3, .int x0, v5] st μ = m_G 140 68 [v0, v1, v2, v3, .int x0, v5] (.int x0 :: st) μ := g_iload (i := 4) (by decide +kernel) rfl
theorem i140_68 : m_G 140 68 L (.int x0 :: .ref a0 :: st) μ = b_i (m_gb μ a0 x0) 140 69 L st μ := g_bald (by decide +kernel)
theorem i140_69 : m_G 140 69 L (.int x0 :: st) μ = if x0 = 0 then m_G 140 81 L st μ else m_G 140 72 L st μ := g_ifeq (off := 12) (by decide +kernel) (by decide)
theorem i140_72 : m_G 140 72 [.ref a0, v1, v2, v3, v4, v5] st μ = m_G 140 73 [.ref a0, v1, v2, v3, v4, v5] (.ref a0 :: st) μ := g_aload_n (i := 0) (by decide +kernel) rfl
theorem i140_73 : m_G 140 73 [v0, v1, v2, v3, .int x0, v5] st μ = m_G 140 75 [v0, v1, v2, v3, .int x0, v5] (.int x0 :: st) μ := g_iload (i := 4) (by decide +kernel) rfl
theorem i140_75 (ho : m_oc μ a0 = some 9) : m_G 140 75 L (.int x0 :: .ref a0 :: []) μ = b_c (m_D 139 [.ref a0, .int x0] μ) 140 78 L [] := g_virt (i := 210) (n := 1) (a := a0) (c := 9) (l := [(9, 139)]) (by decide +kernel) (by decide +kernel) rfl rfl (x_call_ok (ws := [1, 1]) (Nat.le_of_ble_eq_true rfl) rfl (by decide +kernel) rfl (by decide +kernel) rfl rfl) ho
theorem i140_78 : m_G 140 78 L st μ = m_G 140 82 L st μ := g_goto (off := 4) (by decide +kernel) (by decide)
theorem i140_81 : m_G 140 81 L st μ = m_G 140 82 L (.int 0 :: st) μ := g_iconst (n := 0) (by decide +kernel) (by decide)
theorem i140_82 : m_G 140 82 [v0, v1, v2, v3, v4, v5] (.int x0 :: st) μ = m_G 140 84 [v0, v1, v2, v3, v4, .int x0] st μ := g_istore (i := 5) (by decide +kernel) (Nat.le_of_ble_eq_true rfl) rfl
theorem i140_84 : m_G 140 84 [.ref a0, v1, v2, v3, v4, v5] st μ = m_G 140 85 [.ref a0, v1, v2, v3, v4, v5] (.ref a0 :: st) μ := g_aload_n (i := 0) (by decide +kernel) rfl
theorem i140_85 : m_G 140 85 L (.ref a0 :: st) μ = b_v (m_gf μ a0 9 22) 140 88 L st μ := g_getf (i := 56) (by decide +kernel) (by decide +kernel)
theorem i140_88 : m_G 140 88 [v0, v1, v2, v3, .int x0, v5] st μ = m_G 140 90 [v0, v1, v2, v3, .int x0, v5] (.int x0 :: st) μ := g_iload (i := 4) (by decide +kernel) rfl
theorem i140_90 : m_G 140 90 [.ref a0, v1, v2, v3, v4, v5] st μ = m_G 140 91 [.ref a0, v1, v2, v3, v4, v5] (.ref a0 :: st) μ := g_aload_n (i := 0) (by decide +kernel) rfl
theorem i140_91 : m_G 140 91 L (.ref a0 :: st) μ = b_v (m_gf μ a0 9 22) 140 94 L st μ := g_getf (i := 56) (by decide +kernel) (by decide +kernel)
theorem i140_94 : m_G 140 94 [v0, v1, v2, v3, .int x0, v5] st μ = m_G 140 96 [v0, v1, v2, v3, .int x0, v5] (.int x0 :: st) μ := g_iload (i := 4) (by decide +kernel) rfl
theorem i140_96 : m_G 140 96 L (.int x0 :: .ref a0 :: st) μ = b_i (m_gb μ a0 x0) 140 97 L st μ := g_bald (by decide +kernel)
theorem i140_97 : m_G 140 97 L (.int x0 :: st) μ = if x0 = 0 then m_G 140 134 L st μ else m_G 140 100 L st μ := g_ifeq (off := 37) (by decide +kernel) (by decide)
theorem i140_100 : m_G 140 100 [v0, v1, v2, v3, v4, .int x0] st μ = m_G 140 102 [v0, v1, v2, v3, v4, .int x0] (.int x0 :: st) μ := g_iload (i := 5) (by decide +kernel) rfl
theorem i140_102 : m_G 140 102 [v0, v1, .int x0, v3, v4, v5] st μ = m_G 140 103 [v0, v1, .int x0, v3, v4, v5] (.int x0 :: st) μ := g_iload_n (i := 2) (by decide +kernel) rfl
theorem i140_103 : m_G 140 103 L (.int x1 :: .int x0 :: st) μ = m_G 140 104 L (.int (x0 &&& x1) :: st) μ := g_iand (by decide +kernel)
theorem i140_104 : m_G 140 104 [v0, v1, .int x0, v3, v4, v5] st μ = m_G 140 105 [v0, v1, .int x0, v3, v4, v5] (.int x0 :: st) μ := g_iload_n (i := 2) (by decide +kernel) rfl
theorem i140_105 : m_G 140 105 L (.int x1 :: .int x0 :: st) μ = if x0 = x1 then m_G 140 108 L st μ else m_G 140 134 L st μ := g_cmpne (off := 29) (by decide +kernel) (by decide)
theorem i140_108 : m_G 140 108 [v0, v1, v2, v3, v4, .int x0] st μ = m_G 140 110 [v0, v1, v2, v3, v4, .int x0] (.int x0 :: st) μ := g_iload (i := 5) (by decide +kernel) rfl
theorem i140_110 : m_G 140 110 [v0, v1, v2, .int x0, v4, v5] st μ = m_G 140 111 [v0, v1, v2, .int x0, v4, v5] (.int x0 :: st) μ := g_iload_n (i := 3) (by decide +kernel) rfl
theorem i140_111 : m_G 140 111 L (.int x1 :: .int x0 :: st) μ = m_G 140 112 L (.int (x0 &&& x1) :: st) μ := g_iand (by decide +kernel)
theorem i140_112 : m_G 140 112 L (.int x0 :: st) μ = if x0 = 0 then m_G 140 115 L st μ else m_G 140 134 L st μ := g_ifne (off := 22) (by decide +kernel) (by decide)
theorem i140_115 : m_G 140 115 [.ref a0, v1, v2, v3, v4, v5] st μ = m_G 140 116 [.ref a0, v1, v2, v3, v4, v5] (.ref a0 :: st) μ := g_aload_n (i := 0) (by decide +kernel) rfl
theorem i140_116 : m_G 140 116 L (.ref a0 :: st) μ = b_v (m_gf μ a0 9 6) 140 119 L st μ := g_getf (i := 25) (by decide +kernel) (by decide +kernel)
theorem i140_119 : m_G 140 119 [v0, .int x0, v2, v3, v4, v5] st μ = m_G 140 120 [v0, .int x0, v2, v3, v4, v5] (.int x0 :: st) μ := g_iload_n (i := 1) (by decide +kernel) rfl
theorem i140_120 : m_G 140 120 L (.int x0 :: .ref a0 :: st) μ = b_i (m_gb μ a0 x0) 140 121 L st μ := g_bald (by decide +kernel)
theorem i140_121 : m_G 140 121 L (.int x0 :: st) μ = if x0 = 0 then m_G 140 130 L st μ else m_G 140 124 L st μ := g_ifeq (off := 9) (by decide +kernel) (by decide)
theorem i140_124 : m_G 140 124 [v0, v1, v2, v3, v4, .int x0] st μ = m_G 140 126 [v0, v1, v2, v3, v4, .int x0] (.int x0 :: st) μ := g_iload (i := 5) (by decide +kernel) rfl
theorem i140_126 : m_G 140 126 [v0, v1, .int x0, v3, v4, v5] st μ = m_G 140 127 [v0, v1, .int x0, v3, v4, v5] (.int x0 :: st) μ := g_iload_n (i := 2) (by decide +kernel) rfl
theorem i140_127 : m_G 140 127 L (.int x1 :: .int x0 :: st) μ = if x0 = x1 then m_G 140 130 L st μ else m_G 140 134 L st μ := g_cmpne (off := 7) (by decide +kernel) (by decide)
theorem i140_130 : m_G 140 130 L st μ = m_G 140 131 L (.int 1 :: st) μ := g_iconst (n := 1) (by decide +kernel) (by decide)
theorem i140_131 : m_G 140 131 L st μ = m_G 140 135 L st μ := g_goto (off := 4) (by decide +kernel) (by decide)
theorem i140_134 : m_G 140 134 L st μ = m_G 140 135 L (.int 0 :: st) μ := g_iconst (n := 0) (by decide +kernel) (by decide)
theorem i140_135 : m_G 140 135 L (.int x1 :: .int x0 :: .ref a0 :: st) μ = b_m (m_pb μ a0 x0 x1) 140 136 L st := g_bast (by decide +kernel)
theorem i140_136 : m_G 140 136 [v0, v1, v2, v3, .int x0, v5] st μ = m_G 140 139 [v0, v1, v2, v3, .int (x0 + 1), v5] st μ := g_iinc (i := 4) (n := 1) (by decide +kernel) rfl (by decide) rfl
theorem i140_139 : m_G 140 139 L st μ = m_G 140 54 L st μ := g_goto (off := -85) (by decide +kernel) (by decide)
theorem i140_142 : m_G 140 142 [v0, .int x0, v2, v3, v4, v5] st μ = m_G 140 145 [v0, .int (x0 + 1), v2, v3, v4, v5] st μ := g_iinc (i := 1) (n := 1) (by decide +kernel) rfl (by decide) rfl
theorem i140_145 : m_G 140 145 L st μ = m_G 140 24 L st μ := g_goto (off := -121) (by decide +kernel) (by decide)
theorem i140_148 : m_G 140 148 [.ref a0, v1, v2, v3, v4, v5] st μ = m_G 140 149 [.ref a0, v1, v2, v3, v4, v5] (.ref a0 :: st) μ := g_aload_n (i := 0) (by decide +kernel) rfl
theorem i140_149 : m_G 140 149 L st μ = m_G 140 150 L (.int 0 :: st) μ := g_iconst (n := 0) (by decide +kernel) (by decide)
theorem i140_150 : m_G 140 150 L (w0 :: .ref a0 :: st) μ = b_m (m_pf μ a0 9 23 .int w0) 140 153 L st := g_putf (i := 213) (by decide +kernel) (by decide +kernel) (Or.inl (by decide)) (by decide)
theorem i140_153 : m_G 140 153 L st μ = m_G 140 154 L (.int 0 :: st) μ := g_iconst (n := 0) (by decide +kernel) (by decide)
theorem i140_154 : m_G 140 154 [v0, v1, v2, v3, v4, v5] (.int x0 :: st) μ = m_G 140 155 [v0, .int x0, v2, v3, v4, v5] st μ := g_istore_n (i := 1) (by decide +kernel) (Nat.le_of_ble_eq_true rfl) rfl
theorem i140_155 : m_G 140 155 [v0, .int x0, v2, v3, v4, v5] st μ = m_G 140 156 [v0, .int x0, v2, v3, v4, v5] (.int x0 :: st) μ := g_iload_n (i := 1) (by decide +kernel) rfl
theorem i140_156 : m_G 140 156 L st μ = m_G 140 159 L (.int 3615 :: st) μ := g_sipush (n := 3615) (by decide +kernel) (by decide)
theorem i140_159 : m_G 140 159 L (.int x1 :: .int x0 :: st) μ = if x0 < x1 then m_G 140 162 L st μ else m_G 140 191 L st μ := g_cmpge (off := 32) (by decide +kernel) (by decide)
theorem i140_162 : m_G 140 162 [.ref a0, v1, v2, v3, v4, v5] st μ = m_G 140 163 [.ref a0, v1, v2, v3, v4, v5] (.ref a0 :: st) μ := g_aload_n (i := 0) (by decide +kernel) rfl
theorem i140_163 : m_G 140 163 L (.ref a0 :: st) μ = m_G 140 164 L (.ref a0 :: .ref a0 :: st) μ := g_dupr (by decide +kernel)
theorem i140_163I : m_G 140 163 L (.int x0 :: st) μ = m_G 140 164 L (.int x0 :: .int x0 :: st) μ := g_dupi (by decide +kernel)
theorem i140_164 : m_G 140 164 L (.ref a0 :: st) μ = b_v (m_gf μ a0 9 23) 140 167 L st μ := g_getf (i := 213) (by decide +kernel) (by decide +kernel)
theorem i140_167 : m_G 140 167 [.ref a0, v1, v2, v3, v4, v5] st μ = m_G 140 168 [.ref a0, v1, v2, v3, v4, v5] (.ref a0 :: st) μ := g_aload_n (i := 0) (by decide +kernel) rfl
theorem i140_168 : m_G 140 168 L (.ref a0 :: st) μ = b_v (m_gf μ a0 9 22) 140 171 L st μ := g_getf (i := 56) (by decide +kernel) (by decide +kernel)
theorem i140_171 : m_G 140 171 [v0, .int x0, v2, v3, v4, v5] st μ = m_G 140 172 [v0, .int x0, v2, v3, v4, v5] (.int x0 :: st) μ := g_iload_n (i := 1) (by decide +kernel) rfl
theorem i140_172 : m_G 140 172 L (.int x0 :: .ref a0 :: st) μ = b_i (m_gb μ a0 x0) 140 173 L st μ := g_bald (by decide +kernel)
theorem i140_173 : m_G 140 173 L (.int x0 :: st) μ = if x0 = 0 then m_G 140 180 L st μ else m_G 140 176 L st μ := g_ifeq (off := 7) (by decide +kernel) (by decide)
theorem i140_176 : m_G 140 176 L st μ = m_G 140 177 L (.int 1 :: st) μ := g_iconst (n := 1) (by decide +kernel) (by decide)
theorem i140_177 : m_G 140 177 L st μ = m_G 140 181 L st μ := g_goto (off := 4) (by decide +kernel) (by decide)
theorem i140_180 : m_G 140 180 L st μ = m_G 140 181 L (.int 0 :: st) μ := g_iconst (n := 0) (by decide +kernel) (by decide)
theorem i140_181 : m_G 140 181 L (.int x1 :: .int x0 :: st) μ = m_G 140 182 L (.int (x0 + x1) :: st) μ := g_iadd (by decide +kernel)
theorem i140_182 : m_G 140 182 L (w0 :: .ref a0 :: st) μ = b_m (m_pf μ a0 9 23 .int w0) 140 185 L st := g_putf (i := 213) (by decide +kernel) (by decide +kernel) (Or.inl (by decide)) (by decide)
theorem i140_185 : m_G 140 185 [v0, .int x0, v2, v3, v4, v5] st μ = m_G 140 188 [v0, .int (x0 + 1), v2, v3, v4, v5] st μ := g_iinc (i := 1) (n := 1) (by decide +kernel) rfl (by decide) rfl
theorem i140_188 : m_G 140 188 L st μ = m_G 140 155 L st μ := g_goto (off := -33) (by decide +kernel) (by decide)
theorem i140_191 : m_G 140 191 L [] μ = some (none, μ) := g_ret (by decide +kernel) (by decide)
theorem D140 : m_D 140 [.ref a0] μ = m_G 140 0 [.ref a0, m_d, m_d, m_d, m_d, m_d] [] μ := d_def (by decide) rfl
theorem i141_0 : m_G 141 0 L st μ = m_G 141 1 L (.int 0 :: st) μ := g_iconst (n := 0) (by decide +kernel) (by decide)
theorem i141_1 : m_G 141 1 [v0, v1, v2, v3, v4] (.int x0 :: st) μ = m_G 141 2 [v0, .int x0, v2, v3, v4] st μ := g_istore_n (i := 1) (by decide +kernel) (Nat.le_of_ble_eq_true rfl) rfl
theorem i141_2 : m_G 141 2 [v0, .int x0, v2, v3, v4] st μ = m_G 141 3 [v0, .int x0, v2, v3, v4] (.int x0 :: st) μ := g_iload_n (i := 1) (by decide +kernel) rfl
theorem i141_3 : m_G 141 3 [.ref a0, v1, v2, v3, v4] st μ = m_G 141 4 [.ref a0, v1, v2, v3, v4] (.ref a0 :: st) μ := g_aload_n (i := 0) (by decide +kernel) rfl
theorem i141_4 : m_G 141 4 L (.ref a0 :: st) μ = b_v (m_gf μ a0 9 0) 141 7 L st μ := g_getf (i := 99) (by decide +kernel) (by decide +kernel)
theorem i141_7 : m_G 141 7 L (.int x1 :: .int x0 :: st) μ = if x0 < x1 then m_G 141 10 L st μ else m_G 141 105 L st μ := g_cmpge (off := 98) (by decide +kernel) (by decide)
theorem i141_10 : m_G 141 10 [.ref a0, v1, v2, v3, v4] st μ = m_G 141 11 [.ref a0, v1, v2, v3, v4] (.ref a0 :: st) μ := g_aload_n (i := 0) (by decide +kernel) rfl
theorem i141_11 : m_G 141 11 L (.ref a0 :: st) μ = b_v (m_gf μ a0 9 6) 141 14 L st μ := g_getf (i := 25) (by decide +kernel) (by decide +kernel)
theorem i141_14 : m_G 141 14 [v0, .int x0, v2, v3, v4] st μ = m_G 141 15 [v0, .int x0, v2, v3, v4] (.int x0 :: st) μ := g_iload_n (i := 1) (by decide +kernel) rfl
theorem i141_15 : m_G 141 15 L (.int x0 :: .ref a0 :: st) μ = b_i (m_gb μ a0 x0) 141 16 L st μ := g_bald (by decide +kernel)
theorem i141_16 : m_G 141 16 L (.int x0 :: st) μ = if x0 = 0 then m_G 141 19 L st μ else m_G 141 41 L st μ := g_ifne (off := 25) (by decide +kernel) (by decide)
theorem i141_19 : m_G 141 19 [.ref a0, v1, v2, v3, v4] st μ = m_G 141 20 [.ref a0, v1, v2, v3, v4] (.ref a0 :: st) μ := g_aload_n (i := 0) (by decide +kernel) rfl
theorem i141_20 : m_G 141 20 [v0, .int x0, v2, v3, v4] st μ = m_G 141 21 [v0, .int x0, v2, v3, v4] (.int x0 :: st) μ := g_iload_n (i := 1) (by decide +kernel) rfl
theorem i141_21 : m_G 141 21 L st μ = m_G 141 22 L (.int 1 :: st) μ := g_iconst (n := 1) (by decide +kernel) (by decide)
theorem i141_22 (ho : m_oc μ a0 = some 9) : m_G 141 22 L (.int x1 :: .int x0 :: .ref a0 :: []) μ = b_c (m_D 134 [.ref a0, .int x0, .int x1] μ) 141 25 L [] := g_virt (i := 207) (n := 2) (a := a0) (c := 9) (l := [(9, 134)]) (by decide +kernel) (by decide +kernel) rfl rfl (x_call_ok (ws := [1, 1, 1]) (Nat.le_of_ble_eq_true rfl) rfl (by decide +kernel) rfl (by decide +kernel) rfl rfl) ho
theorem i141_25 : m_G 141 25 L (.int x0 :: st) μ = if x0 = 0 then m_G 141 28 L st μ else m_G 141 41 L st μ := g_ifne (off := 16) (by decide +kernel) (by decide)
theorem i141_28 : m_G 141 28 [.ref a0, v1, v2, v3, v4] st μ = m_G 141 29 [.ref a0, v1, v2, v3, v4] (.ref a0 :: st) μ := g_aload_n (i := 0) (by decide +kernel) rfl
theorem i141_29 : m_G 141 29 [v0, .int x0, v2, v3, v4] st μ = m_G 141 30 [v0, .int x0, v2, v3, v4] (.int x0 :: st) μ := g_iload_n (i := 1) (by decide +kernel) rfl
theorem i141_30 : m_G 141 30 L st μ = m_G 141 31 L (.int 2 :: st) μ := g_iconst (n := 2) (by decide +kernel) (by decide)
theorem i141_31 (ho : m_oc μ a0 = some 9) : m_G 141 31 L (.int x1 :: .int x0 :: .ref a0 :: []) μ = b_c (m_D 134 [.ref a0, .int x0, .int x1] μ) 141 34 L [] := g_virt (i := 207) (n := 2) (a := a0) (c := 9) (l := [(9, 134)]) (by decide +kernel) (by decide +kernel) rfl rfl (x_call_ok (ws := [1, 1, 1]) (Nat.le_of_ble_eq_true rfl) rfl (by decide +kernel) rfl (by decide +kernel) rfl rfl) ho
theorem i141_34 : m_G 141 34 L (.int x0 :: st) μ = if x0 = 0 then m_G 141 37 L st μ else m_G 141 41 L st μ := g_ifne (off := 7) (by decide +kernel) (by decide)
theorem i141_37 : m_G 141 37 L st μ = m_G 141 38 L (.int 1 :: st) μ := g_iconst (n := 1) (by decide +kernel) (by decide)
theorem i141_38 : m_G 141 38 L st μ = m_G 141 42 L st μ := g_goto (off := 4) (by decide +kernel) (by decide)
theorem i141_41 : m_G 141 41 L st μ = m_G 141 42 L (.int 0 :: st) μ := g_iconst (n := 0) (by decide +kernel) (by decide)
theorem i141_42 : m_G 141 42 [v0, v1, v2, v3, v4] (.int x0 :: st) μ = m_G 141 43 [v0, v1, .int x0, v3, v4] st μ := g_istore_n (i := 2) (by decide +kernel) (Nat.le_of_ble_eq_true rfl) rfl
theorem i141_43 : m_G 141 43 [.ref a0, v1, v2, v3, v4] st μ = m_G 141 44 [.ref a0, v1, v2, v3, v4] (.ref a0 :: st) μ := g_aload_n (i := 0) (by decide +kernel) rfl
theorem i141_44 : m_G 141 44 [v0, .int x0, v2, v3, v4] st μ = m_G 141 45 [v0, .int x0, v2, v3, v4] (.int x0 :: st) μ := g_iload_n (i := 1) (by decide +kernel) rfl
theorem i141_45 (ho : m_oc μ a0 = some 9) : m_G 141 45 L (.int x0 :: .ref a0 :: []) μ = b_c (m_D 138 [.ref a0, .int x0] μ) 141 48 L [] := g_virt (i := 204) (n := 1) (a := a0) (c := 9) (l := [(9, 138)]) (by decide +kernel) (by decide +kernel) rfl rfl (x_call_ok (ws := [1, 1]) (Nat.le_of_ble_eq_true rfl) rfl (by decide +kernel) rfl (by decide +kernel) rfl rfl) ho
theorem i141_48 : m_G 141 48 L st μ = m_G 141 49 L (.int 0 :: st) μ := g_iconst (n := 0) (by decide +kernel) (by decide)
theorem i141_49 : m_G 141 49 [v0, v1, v2, v3, v4] (.int x0 :: st) μ = m_G 141 50 [v0, v1, v2, .int x0, v4] st μ := g_istore_n (i := 3) (by decide +kernel) (Nat.le_of_ble_eq_true rfl) rfl
theorem i141_50 : m_G 141 50 [v0, v1, v2, .int x0, v4] st μ = m_G 141 51 [v0, v1, v2, .int x0, v4] (.int x0 :: st) μ := g_iload_n (i := 3) (by decide +kernel) rfl
theorem i141_51 : m_G 141 51 L st μ = m_G 141 54 L (.int 3615 :: st) μ := g_sipush (n := 3615) (by decide +kernel) (by decide)
theorem i141_54 : m_G 141 54 L (.int x1 :: .int x0 :: st) μ = if x0 < x1 then m_G 141 57 L st μ else m_G 141 99 L st μ := g_cmpge (off := 45) (by decide +kernel) (by decide)
theorem i141_57 : m_G 141 57 [.ref a0, v1, v2, v3, v4] st μ = m_G 141 58 [.ref a0, v1, v2, v3, v4] (.ref a0 :: st) μ := g_aload_n (i := 0) (by decide +kernel) rfl
theorem i141_58 : m_G 141 58 L (.ref a0 :: st) μ = b_v (m_gf μ a0 9 25) 141 61 L st μ := g_getf (i := 62) (by decide +kernel) (by decide +kernel)
theorem i141_61 : m_G 141 61 L st μ = m_G 141 63 L (.int 8 :: st) μ := g_bipush (n := 8) (by decide +kernel) (by decide)
theorem i141_63 : m_G 141 63 [v0, v1, v2, .int x0, v4] st μ = m_G 141 64 [v0, v1, v2, .int x0, v4] (.int x0 :: st) μ := g_iload_n (i := 3) (by decide +kernel) rfl
theorem i141_64 : m_G 141 64 L (.int x1 :: .int x0 :: st) μ = m_G 141 65 L (.int (x0 * x1) :: st) μ := g_imul (by decide +kernel)
theorem i141_65 : m_G 141 65 [v0, .int x0, v2, v3, v4] st μ = m_G 141 66 [v0, .int x0, v2, v3, v4] (.int x0 :: st) μ := g_iload_n (i := 1) (by decide +kernel) rfl
theorem i141_66 : m_G 141 66 L (.int x1 :: .int x0 :: st) μ = m_G 141 67 L (.int (x0 + x1) :: st) μ := g_iadd (by decide +kernel)
theorem i141_67 : m_G 141 67 [v0, v1, .int x0, v3, v4] st μ = m_G 141 68 [v0, v1, .int x0, v3, v4] (.int x0 :: st) μ := g_iload_n (i := 2) (by decide +kernel) rfl
theorem i141_68 : m_G 141 68 L (.int x0 :: st) μ = if x0 = 0 then m_G 141 91 L st μ else m_G 141 71 L st μ := g_ifeq (off := 23) (by decide +kernel) (by decide)
theorem i141_71 : m_G 141 71 [.ref a0, v1, v2, v3, v4] st μ = m_G 141 72 [.ref a0, v1, v2, v3, v4] (.ref a0 :: st) μ := g_aload_n (i := 0) (by decide +kernel) rfl
theorem i141_72 : m_G 141 72 L (.ref a0 :: st) μ = b_v (m_gf μ a0 9 22) 141 75 L st μ := g_getf (i := 56) (by decide +kernel) (by decide +kernel)
theorem i141_75 : m_G 141 75 [v0, v1, v2, .int x0, v4] st μ = m_G 141 76 [v0, v1, v2, .int x0, v4] (.int x0 :: st) μ := g_iload_n (i := 3) (by decide +kernel) rfl
theorem i141_76 : m_G 141 76 L (.int x0 :: .ref a0 :: st) μ = b_i (m_gb μ a0 x0) 141 77 L st μ := g_bald (by decide +kernel)
theorem i141_77 : m_G 141 77 L (.int x0 :: st) μ = if x0 = 0 then m_G 141 91 L st μ else m_G 141 80 L st μ := g_ifeq (off := 14) (by decide +kernel) (by decide)
theorem i141_80 : m_G 141 80 [.ref a0, v1, v2, v3, v4] st μ = m_G 141 81 [.ref a0, v1, v2, v3, v4] (.ref a0 :: st) μ := g_aload_n (i := 0) (by decide +kernel) rfl
theorem i141_81 : m_G 141 81 [v0, v1, v2, .int x0, v4] st μ = m_G 141 82 [v0, v1, v2, .int x0, v4] (.int x0 :: st) μ := g_iload_n (i := 3) (by decide +kernel) rfl
theorem i141_82 (ho : m_oc μ a0 = some 9) : m_G 141 82 L (.int x0 :: .ref a0 :: [w0, w1]) μ = b_c (m_D 139 [.ref a0, .int x0] μ) 141 85 L [w0, w1] := g_virt (i := 210) (n := 1) (a := a0) (c := 9) (l := [(9, 139)]) (by decide +kernel) (by decide +kernel) rfl rfl (x_call_ok (ws := [1, 1]) (Nat.le_of_ble_eq_true rfl) rfl (by decide +kernel) rfl (by decide +kernel) rfl rfl) ho
theorem i141_85 : m_G 141 85 L (.int x0 :: [w0, w1]) μ = b_c (m_D 103 [.int x0] μ) 141 88 L [w0, w1] := g_stat (i := 216) (n := 1) (by decide +kernel) (by decide +kernel) (by decide) (x_call_ok (ws := [1]) (Nat.le_of_ble_eq_true rfl) rfl (by decide +kernel) rfl (by decide +kernel) rfl rfl)
theorem i141_88 : m_G 141 88 L st μ = m_G 141 92 L st μ := g_goto (off := 4) (by decide +kernel) (by decide)
theorem i141_91 : m_G 141 91 L st μ = m_G 141 92 L (.int 0 :: st) μ := g_iconst (n := 0) (by decide +kernel) (by decide)
theorem i141_92 : m_G 141 92 L (.int x1 :: .int x0 :: .ref a0 :: st) μ = b_m (m_pa μ a0 x0 x1) 141 93 L st := g_iast (by decide +kernel)
theorem i141_93 : m_G 141 93 [v0, v1, v2, .int x0, v4] st μ = m_G 141 96 [v0, v1, v2, .int (x0 + 1), v4] st μ := g_iinc (i := 3) (n := 1) (by decide +kernel) rfl (by decide) rfl
theorem i141_96 : m_G 141 96 L st μ = m_G 141 50 L st μ := g_goto (off := -46) (by decide +kernel) (by decide)
theorem i141_99 : m_G 141 99 [v0, .int x0, v2, v3, v4] st μ = m_G 141 102 [v0, .int (x0 + 1), v2, v3, v4] st μ := g_iinc (i := 1) (n := 1) (by decide +kernel) rfl (by decide) rfl
theorem i141_102 : m_G 141 102 L st μ = m_G 141 2 L st μ := g_goto (off := -100) (by decide +kernel) (by decide)
theorem i141_105 : m_G 141 105 L st μ = m_G 141 106 L (.int 0 :: st) μ := g_iconst (n := 0) (by decide +kernel) (by decide)
theorem i141_106 : m_G 141 106 [v0, v1, v2, v3, v4] (.int x0 :: st) μ = m_G 141 107 [v0, .int x0, v2, v3, v4] st μ := g_istore_n (i := 1) (by decide +kernel) (Nat.le_of_ble_eq_true rfl) rfl
theorem i141_107 : m_G 141 107 [v0, .int x0, v2, v3, v4] st μ = m_G 141 108 [v0, .int x0, v2, v3, v4] (.int x0 :: st) μ := g_iload_n (i := 1) (by decide +kernel) rfl
theorem i141_108 : m_G 141 108 L st μ = m_G 141 111 L (.int 3615 :: st) μ := g_sipush (n := 3615) (by decide +kernel) (by decide)
theorem i141_111 : m_G 141 111 L (.int x1 :: .int x0 :: st) μ = if x0 < x1 then m_G 141 114 L st μ else m_G 141 246 L st μ := g_cmpge (off := 135) (by decide +kernel) (by decide)
theorem i141_114 : m_G 141 114 [.ref a0, v1, v2, v3, v4] st μ = m_G 141 115 [.ref a0, v1, v2, v3, v4] (.ref a0 :: st) μ := g_aload_n (i := 0) (by decide +kernel) rfl
theorem i141_115 : m_G 141 115 L (.ref a0 :: st) μ = b_v (m_gf μ a0 9 24) 141 118 L st μ := g_getf (i := 59) (by decide +kernel) (by decide +kernel)
theorem i141_118 : m_G 141 118 [v0, .int x0, v2, v3, v4] st μ = m_G 141 119 [v0, .int x0, v2, v3, v4] (.int x0 :: st) μ := g_iload_n (i := 1) (by decide +kernel) rfl
theorem i141_119 : m_G 141 119 L st μ = m_G 141 120 L (.int 0 :: st) μ := g_iconst (n := 0) (by decide +kernel) (by decide)
theorem i141_120 : m_G 141 120 L (.int x1 :: .int x0 :: .ref a0 :: st) μ = b_m (m_pa μ a0 x0 x1) 141 121 L st := g_iast (by decide +kernel)
theorem i141_121 : m_G 141 121 L st μ = m_G 141 122 L (.int 0 :: st) μ := g_iconst (n := 0) (by decide +kernel) (by decide)
theorem i141_122 : m_G 141 122 [v0, v1, v2, v3, v4] (.int x0 :: st) μ = m_G 141 123 [v0, v1, .int x0, v3, v4] st μ := g_istore_n (i := 2) (by decide +kernel) (Nat.le_of_ble_eq_true rfl) rfl
theorem i141_123 : m_G 141 123 [v0, v1, .int x0, v3, v4] st μ = m_G 141 124 [v0, v1, .int x0, v3, v4] (.int x0 :: st) μ := g_iload_n (i := 2) (by decide +kernel) rfl
theorem i141_124 : m_G 141 124 [.ref a0, v1, v2, v3, v4] st μ = m_G 141 125 [.ref a0, v1, v2, v3, v4] (.ref a0 :: st) μ := g_aload_n (i := 0) (by decide +kernel) rfl
theorem i141_125 : m_G 141 125 L (.ref a0 :: st) μ = b_v (m_gf μ a0 9 0) 141 128 L st μ := g_getf (i := 99) (by decide +kernel) (by decide +kernel)
theorem i141_128 : m_G 141 128 L (.int x1 :: .int x0 :: st) μ = if x0 < x1 then m_G 141 131 L st μ else m_G 141 240 L st μ := g_cmpge (off := 112) (by decide +kernel) (by decide)
theorem i141_131 : m_G 141 131 [.ref a0, v1, v2, v3, v4] st μ = m_G 141 132 [.ref a0, v1, v2, v3, v4] (.ref a0 :: st) μ := g_aload_n (i := 0) (by decide +kernel) rfl
theorem i141_132 : m_G 141 132 L (.ref a0 :: st) μ = b_v (m_gf μ a0 9 22) 141 135 L st μ := g_getf (i := 56) (by decide +kernel) (by decide +kernel)
theorem i141_135 : m_G 141 135 [v0, .int x0, v2, v3, v4] st μ = m_G 141 136 [v0, .int x0, v2, v3, v4] (.int x0 :: st) μ := g_iload_n (i := 1) (by decide +kernel) rfl
theorem i141_136 : m_G 141 136 L (.int x0 :: .ref a0 :: st) μ = b_i (m_gb μ a0 x0) 141 137 L st μ := g_bald (by decide +kernel)
theorem i141_137 : m_G 141 137 L (.int x0 :: st) μ = if x0 = 0 then m_G 141 240 L st μ else m_G 141 140 L st μ := g_ifeq (off := 103) (by decide +kernel) (by decide)
theorem i141_140 : m_G 141 140 L st μ = m_G 141 141 L (.int 0 :: st) μ := g_iconst (n := 0) (by decide +kernel) (by decide)
theorem i141_141 : m_G 141 141 [v0, v1, v2, v3, v4] (.int x0 :: st) μ = m_G 141 142 [v0, v1, v2, .int x0, v4] st μ := g_istore_n (i := 3) (by decide +kernel) (Nat.le_of_ble_eq_true rfl) rfl
theorem i141_142 : m_G 141 142 L st μ = m_G 141 143 L (.int 0 :: st) μ := g_iconst (n := 0) (by decide +kernel) (by decide)
theorem i141_143 : m_G 141 143 [v0, v1, v2, v3, v4] (.int x0 :: st) μ = m_G 141 145 [v0, v1, v2, v3, .int x0] st μ := g_istore (i := 4) (by decide +kernel) (Nat.le_of_ble_eq_true rfl) rfl
theorem i141_145 : m_G 141 145 [v0, v1, v2, v3, .int x0] st μ = m_G 141 147 [v0, v1, v2, v3, .int x0] (.int x0 :: st) μ := g_iload (i := 4) (by decide +kernel) rfl
theorem i141_147 : m_G 141 147 [.ref a0, v1, v2, v3, v4] st μ = m_G 141 148 [.ref a0, v1, v2, v3, v4] (.ref a0 :: st) μ := g_aload_n (i := 0) (by decide +kernel) rfl
theorem i141_148 : m_G 141 148 L (.ref a0 :: st) μ = b_v (m_gf μ a0 9 0) 141 151 L st μ := g_getf (i := 99) (by decide +kernel) (by decide +kernel)
theorem i141_151 : m_G 141 151 L (.int x1 :: .int x0 :: st) μ = if x0 < x1 then m_G 141 154 L st μ else m_G 141 194 L st μ := g_cmpge (off := 43) (by decide +kernel) (by decide)
theorem i141_154 : m_G 141 154 [v0, v1, v2, .int x0, v4] st μ = m_G 141 155 [v0, v1, v2, .int x0, v4] (.int x0 :: st) μ := g_iload_n (i := 3) (by decide +kernel) rfl
theorem i141_155 : m_G 141 155 [.ref a0, v1, v2, v3, v4] st μ = m_G 141 156 [.ref a0, v1, v2, v3, v4] (.ref a0 :: st) μ := g_aload_n (i := 0) (by decide +kernel) rfl
theorem i141_156 : m_G 141 156 L (.ref a0 :: st) μ = b_v (m_gf μ a0 9 25) 141 159 L st μ := g_getf (i := 62) (by decide +kernel) (by decide +kernel)
theorem i141_159 : m_G 141 159 L st μ = m_G 141 161 L (.int 8 :: st) μ := g_bipush (n := 8) (by decide +kernel) (by decide)
theorem i141_161 : m_G 141 161 [v0, .int x0, v2, v3, v4] st μ = m_G 141 162 [v0, .int x0, v2, v3, v4] (.int x0 :: st) μ := g_iload_n (i := 1) (by decide +kernel) rfl
theorem i141_162 : m_G 141 162 L (.int x1 :: .int x0 :: st) μ = m_G 141 163 L (.int (x0 * x1) :: st) μ := g_imul (by decide +kernel)
theorem i141_163 : m_G 141 163 [v0, v1, v2, v3, .int x0] st μ = m_G 141 165 [v0, v1, v2, v3, .int x0] (.int x0 :: st) μ := g_iload (i := 4) (by decide +kernel) rfl
theorem i141_165 : m_G 141 165 L (.int x1 :: .int x0 :: st) μ = m_G 141 166 L (.int (x0 + x1) :: st) μ := g_iadd (by decide +kernel)
theorem i141_166 : m_G 141 166 L (.int x0 :: .ref a0 :: st) μ = b_i (m_ga μ a0 x0) 141 167 L st μ := g_iald (by decide +kernel)
theorem i141_167 : m_G 141 167 [.ref a0, v1, v2, v3, v4] st μ = m_G 141 168 [.ref a0, v1, v2, v3, v4] (.ref a0 :: st) μ := g_aload_n (i := 0) (by decide +kernel) rfl
theorem i141_168 : m_G 141 168 L (.ref a0 :: st) μ = b_v (m_gf μ a0 9 25) 141 171 L st μ := g_getf (i := 62) (by decide +kernel) (by decide +kernel)
theorem i141_171 : m_G 141 171 L st μ = m_G 141 173 L (.int 8 :: st) μ := g_bipush (n := 8) (by decide +kernel) (by decide)
theorem i141_173 : m_G 141 173 [v0, .int x0, v2, v3, v4] st μ = m_G 141 174 [v0, .int x0, v2, v3, v4] (.int x0 :: st) μ := g_iload_n (i := 1) (by decide +kernel) rfl
theorem i141_174 : m_G 141 174 L (.int x1 :: .int x0 :: st) μ = m_G 141 175 L (.int (x0 * x1) :: st) μ := g_imul (by decide +kernel)
theorem i141_175 : m_G 141 175 [v0, v1, .int x0, v3, v4] st μ = m_G 141 176 [v0, v1, .int x0, v3, v4] (.int x0 :: st) μ := g_iload_n (i := 2) (by decide +kernel) rfl
theorem i141_176 : m_G 141 176 L (.int x1 :: .int x0 :: st) μ = m_G 141 177 L (.int (x0 + x1) :: st) μ := g_iadd (by decide +kernel)
theorem i141_177 : m_G 141 177 L (.int x0 :: .ref a0 :: st) μ = b_i (m_ga μ a0 x0) 141 178 L st μ := g_iald (by decide +kernel)
theorem i141_178 : m_G 141 178 L (.int x1 :: .int x0 :: st) μ = if x0 = x1 then m_G 141 181 L st μ else m_G 141 185 L st μ := g_cmpne (off := 7) (by decide +kernel) (by decide)
theorem i141_181 : m_G 141 181 L st μ = m_G 141 182 L (.int 1 :: st) μ := g_iconst (n := 1) (by decide +kernel) (by decide)
theorem i141_182 : m_G 141 182 L st μ = m_G 141 186 L st μ := g_goto (off := 4) (by decide +kernel) (by decide)
theorem i141_185 : m_G 141 185 L st μ = m_G 141 186 L (.int 0 :: st) μ := g_iconst (n := 0) (by decide +kernel) (by decide)
theorem i141_186 : m_G 141 186 L (.int x1 :: .int x0 :: st) μ = m_G 141 187 L (.int (x0 + x1) :: st) μ := g_iadd (by decide +kernel)
theorem i141_187 : m_G 141 187 [v0, v1, v2, v3, v4] (.int x0 :: st) μ = m_G 141 188 [v0, v1, v2, .int x0, v4] st μ := g_istore_n (i := 3) (by decide +kernel) (Nat.le_of_ble_eq_true rfl) rfl
theorem i141_188 : m_G 141 188 [v0, v1, v2, v3, .int x0] st μ = m_G 141 191 [v0, v1, v2, v3, .int (x0 + 1)] st μ := g_iinc (i := 4) (n := 1) (by decide +kernel) rfl (by decide) rfl
theorem i141_191 : m_G 141 191 L st μ = m_G 141 145 L st μ := g_goto (off := -46) (by decide +kernel) (by decide)
theorem i141_194 : m_G 141 194 [.ref a0, v1, v2, v3, v4] st μ = m_G 141 195 [.ref a0, v1, v2, v3, v4] (.ref a0 :: st) μ := g_aload_n (i := 0) (by decide +kernel) rfl
theorem i141_195 : m_G 141 195 L (.ref a0 :: st) μ = b_v (m_gf μ a0 9 24) 141 198 L st μ := g_getf (i := 59) (by decide +kernel) (by decide +kernel)
theorem i141_198 : m_G 141 198 [v0, .int x0, v2, v3, v4] st μ = m_G 141 199 [v0, .int x0, v2, v3, v4] (.int x0 :: st) μ := g_iload_n (i := 1) (by decide +kernel) rfl
theorem i141_199 : m_G 141 199 [.ref a0, v1, v2, v3, v4] st μ = m_G 141 200 [.ref a0, v1, v2, v3, v4] (.ref a0 :: st) μ := g_aload_n (i := 0) (by decide +kernel) rfl
theorem i141_200 : m_G 141 200 L (.ref a0 :: st) μ = b_v (m_gf μ a0 9 25) 141 203 L st μ := g_getf (i := 62) (by decide +kernel) (by decide +kernel)
theorem i141_203 : m_G 141 203 L st μ = m_G 141 205 L (.int 8 :: st) μ := g_bipush (n := 8) (by decide +kernel) (by decide)
theorem i141_205 : m_G 141 205 [v0, .int x0, v2, v3, v4] st μ = m_G 141 206 [v0, .int x0, v2, v3, v4] (.int x0 :: st) μ := g_iload_n (i := 1) (by decide +kernel) rfl
theorem i141_206 : m_G 141 206 L (.int x1 :: .int x0 :: st) μ = m_G 141 207 L (.int (x0 * x1) :: st) μ := g_imul (by decide +kernel)
theorem i141_207 : m_G 141 207 [v0, v1, .int x0, v3, v4] st μ = m_G 141 208 [v0, v1, .int x0, v3, v4] (.int x0 :: st) μ := g_iload_n (i := 2) (by decide +kernel) rfl
theorem i141_208 : m_G 141 208 L (.int x1 :: .int x0 :: st) μ = m_G 141 209 L (.int (x0 + x1) :: st) μ := g_iadd (by decide +kernel)
theorem i141_209 : m_G 141 209 L (.int x0 :: .ref a0 :: st) μ = b_i (m_ga μ a0 x0) 141 210 L st μ := g_iald (by decide +kernel)
theorem i141_210 : m_G 141 210 L (.int x0 :: st) μ = if x0 ≤ 0 then m_G 141 227 L st μ else m_G 141 213 L st μ := g_ifle (off := 17) (by decide +kernel) (by decide)
theorem i141_213 : m_G 141 213 [v0, v1, v2, .int x0, v4] st μ = m_G 141 214 [v0, v1, v2, .int x0, v4] (.int x0 :: st) μ := g_iload_n (i := 3) (by decide +kernel) rfl
theorem i141_214 : m_G 141 214 [.ref a0, v1, v2, v3, v4] st μ = m_G 141 215 [.ref a0, v1, v2, v3, v4] (.ref a0 :: st) μ := g_aload_n (i := 0) (by decide +kernel) rfl
theorem i141_215 : m_G 141 215 L (.ref a0 :: st) μ = b_v (m_gf μ a0 9 24) 141 218 L st μ := g_getf (i := 59) (by decide +kernel) (by decide +kernel)
theorem i141_218 : m_G 141 218 [v0, .int x0, v2, v3, v4] st μ = m_G 141 219 [v0, .int x0, v2, v3, v4] (.int x0 :: st) μ := g_iload_n (i := 1) (by decide +kernel) rfl
theorem i141_219 : m_G 141 219 L (.int x0 :: .ref a0 :: st) μ = b_i (m_ga μ a0 x0) 141 220 L st μ := g_iald (by decide +kernel)
theorem i141_220 : m_G 141 220 L (.int x1 :: .int x0 :: st) μ = if x1 < x0 then m_G 141 223 L st μ else m_G 141 227 L st μ := g_cmple (off := 7) (by decide +kernel) (by decide)
theorem i141_223 : m_G 141 223 [v0, v1, v2, .int x0, v4] st μ = m_G 141 224 [v0, v1, v2, .int x0, v4] (.int x0 :: st) μ := g_iload_n (i := 3) (by decide +kernel) rfl
theorem i141_224 : m_G 141 224 L st μ = m_G 141 233 L st μ := g_goto (off := 9) (by decide +kernel) (by decide)
theorem i141_227 : m_G 141 227 [.ref a0, v1, v2, v3, v4] st μ = m_G 141 228 [.ref a0, v1, v2, v3, v4] (.ref a0 :: st) μ := g_aload_n (i := 0) (by decide +kernel) rfl
theorem i141_228 : m_G 141 228 L (.ref a0 :: st) μ = b_v (m_gf μ a0 9 24) 141 231 L st μ := g_getf (i := 59) (by decide +kernel) (by decide +kernel)
theorem i141_231 : m_G 141 231 [v0, .int x0, v2, v3, v4] st μ = m_G 141 232 [v0, .int x0, v2, v3, v4] (.int x0 :: st) μ := g_iload_n (i := 1) (by decide +kernel) rfl
theorem i141_232 : m_G 141 232 L (.int x0 :: .ref a0 :: st) μ = b_i (m_ga μ a0 x0) 141 233 L st μ := g_iald (by decide +kernel)
theorem i141_233 : m_G 141 233 L (.int x1 :: .int x0 :: .ref a0 :: st) μ = b_m (m_pa μ a0 x0 x1) 141 234 L st := g_iast (by decide +kernel)
theorem i141_234 : m_G 141 234 [v0, v1, .int x0, v3, v4] st μ = m_G 141 237 [v0, v1, .int (x0 + 1), v3, v4] st μ := g_iinc (i := 2) (n := 1) (by decide +kernel) rfl (by decide) rfl
theorem i141_237 : m_G 141 237 L st μ = m_G 141 123 L st μ := g_goto (off := -114) (by decide +kernel) (by decide)
theorem i141_240 : m_G 141 240 [v0, .int x0, v2, v3, v4] st μ = m_G 141 243 [v0, .int (x0 + 1), v2, v3, v4] st μ := g_iinc (i := 1) (n := 1) (by decide +kernel) rfl (by decide) rfl
theorem i141_243 : m_G 141 243 L st μ = m_G 141 107 L st μ := g_goto (off := -136) (by decide +kernel) (by decide)
theorem i141_246 : m_G 141 246 L [] μ = some (none, μ) := g_ret (by decide +kernel) (by decide)
theorem D141 : m_D 141 [.ref a0] μ = m_G 141 0 [.ref a0, m_d, m_d, m_d, m_d] [] μ := d_def (by decide) rfl
theorem i142_0 : m_G 142 0 [.ref a0, v1, v2, v3, v4] st μ = m_G 142 1 [.ref a0, v1, v2, v3, v4] (.ref a0 :: st) μ := g_aload_n (i := 0) (by decide +kernel) rfl
theorem i142_1 (ho : m_oc μ a0 = some 9) : m_G 142 1 L (.ref a0 :: []) μ = b_c (m_D 140 [.ref a0] μ) 142 4 L [] := g_virt (i := 219) (n := 0) (a := a0) (c := 9) (l := [(9, 140)]) (by decide +kernel) (by decide +kernel) rfl rfl (x_call_ok (ws := [1]) (Nat.le_of_ble_eq_true rfl) rfl (by decide +kernel) rfl (by decide +kernel) rfl rfl) ho
theorem i142_4 : m_G 142 4 [v0, .int x0, v2, v3, v4] st μ = m_G 142 5 [v0, .int x0, v2, v3, v4] (.int x0 :: st) μ := g_iload_n (i := 1) (by decide +kernel) rfl
theorem i142_5 : m_G 142 5 L st μ = m_G 142 6 L (.int 1 :: st) μ := g_iconst (n := 1) (by decide +kernel) (by decide)
theorem i142_6 : m_G 142 6 L (.int x1 :: .int x0 :: st) μ = if x0 = x1 then m_G 142 9 L st μ else m_G 142 13 L st μ := g_cmpne (off := 7) (by decide +kernel) (by decide)
theorem i142_9 : m_G 142 9 [.ref a0, v1, v2, v3, v4] st μ = m_G 142 10 [.ref a0, v1, v2, v3, v4] (.ref a0 :: st) μ := g_aload_n (i := 0) (by decide +kernel) rfl
theorem i142_10 (ho : m_oc μ a0 = some 9) : m_G 142 10 L (.ref a0 :: []) μ = b_c (m_D 141 [.ref a0] μ) 142 13 L [] := g_virt (i := 222) (n := 0) (a := a0) (c := 9) (l := [(9, 141)]) (by decide +kernel) (by decide +kernel) rfl rfl (x_call_ok (ws := [1]) (Nat.le_of_ble_eq_true rfl) rfl (by decide +kernel) rfl (by decide +kernel) rfl rfl) ho
theorem i142_13 : m_G 142 13 L st μ = m_G 142 14 L (.int (-1) :: st) μ := g_iconst (n := -1) (by decide +kernel) (by decide)
theorem i142_14 : m_G 142 14 [v0, v1, v2, v3, v4] (.int x0 :: st) μ = m_G 142 15 [v0, v1, .int x0, v3, v4] st μ := g_istore_n (i := 2) (by decide +kernel) (Nat.le_of_ble_eq_true rfl) rfl
theorem i142_15 : m_G 142 15 L st μ = m_G 142 18 L (.int 3614 :: st) μ := g_sipush (n := 3614) (by decide +kernel) (by decide)
theorem i142_18 : m_G 142 18 [v0, v1, v2, v3, v4] (.int x0 :: st) μ = m_G 142 19 [v0, v1, v2, .int x0, v4] st μ := g_istore_n (i := 3) (by decide +kernel) (Nat.le_of_ble_eq_true rfl) rfl
theorem i142_19 : m_G 142 19 [v0, v1, v2, .int x0, v4] st μ = m_G 142 20 [v0, v1, v2, .int x0, v4] (.int x0 :: st) μ := g_iload_n (i := 3) (by decide +kernel) rfl
theorem i142_20 : m_G 142 20 L (.int x0 :: st) μ = if x0 < 0 then m_G 142 80 L st μ else m_G 142 23 L st μ := g_iflt (off := 60) (by decide +kernel) (by decide)
theorem i142_23 : m_G 142 23 [v0, v1, .int x0, v3, v4] st μ = m_G 142 24 [v0, v1, .int x0, v3, v4] (.int x0 :: st) μ := g_iload_n (i := 2) (by decide +kernel) rfl
theorem i142_24 : m_G 142 24 L st μ = m_G 142 25 L (.int (-1) :: st) μ := g_iconst (n := -1) (by decide +kernel) (by decide)
theorem i142_25 : m_G 142 25 L (.int x1 :: .int x0 :: st) μ = if x0 = x1 then m_G 142 47 L st μ else m_G 142 28 L st μ := g_cmpeq (off := 22) (by decide +kernel) (by decide)
theorem i142_28 : m_G 142 28 [v0, .int x0, v2, v3, v4] st μ = m_G 142 29 [v0, .int x0, v2, v3, v4] (.int x0 :: st) μ := g_iload_n (i := 1) (by decide +kernel) rfl
theorem i142_29 : m_G 142 29 L (.int x0 :: st) μ = if x0 = 0 then m_G 142 47 L st μ else m_G 142 32 L st μ := g_ifeq (off := 18) (by decide +kernel) (by decide)
theorem i142_32 : m_G 142 32 [.ref a0, v1, v2, v3, v4] st μ = m_G 142 33 [.ref a0, v1, v2, v3, v4] (.ref a0 :: st) μ := g_aload_n (i := 0) (by decide +kernel) rfl
theorem i142_33 : m_G 142 33 L (.ref a0 :: st) μ = b_v (m_gf μ a0 9 24) 142 36 L st μ := g_getf (i := 59) (by decide +kernel) (by decide +kernel)
theorem i142_36 : m_G 142 36 [v0, v1, v2, .int x0, v4] st μ = m_G 142 37 [v0, v1, v2, .int x0, v4] (.int x0 :: st) μ := g_iload_n (i := 3) (by decide +kernel) rfl
theorem i142_37 : m_G 142 37 L (.int x0 :: .ref a0 :: st) μ = b_i (m_ga μ a0 x0) 142 38 L st μ := g_iald (by decide +kernel)
theorem i142_38 : m_G 142 38 [.ref a0, v1, v2, v3, v4] st μ = m_G 142 39 [.ref a0, v1, v2, v3, v4] (.ref a0 :: st) μ := g_aload_n (i := 0) (by decide +kernel) rfl
theorem i142_39 : m_G 142 39 L (.ref a0 :: st) μ = b_v (m_gf μ a0 9 24) 142 42 L st μ := g_getf (i := 59) (by decide +kernel) (by decide +kernel)
theorem i142_42 : m_G 142 42 [v0, v1, .int x0, v3, v4] st μ = m_G 142 43 [v0, v1, .int x0, v3, v4] (.int x0 :: st) μ := g_iload_n (i := 2) (by decide +kernel) rfl
theorem i142_43 : m_G 142 43 L (.int x0 :: .ref a0 :: st) μ = b_i (m_ga μ a0 x0) 142 44 L st μ := g_iald (by decide +kernel)
theorem i142_44 : m_G 142 44 L (.int x1 :: .int x0 :: st) μ = if x0 < x1 then m_G 142 51 L st μ else m_G 142 47 L st μ := g_cmplt (off := 7) (by decide +kernel) (by decide)
theorem i142_47 : m_G 142 47 L st μ = m_G 142 48 L (.int 1 :: st) μ := g_iconst (n := 1) (by decide +kernel) (by decide)
theorem i142_48 : m_G 142 48 L st μ = m_G 142 52 L st μ := g_goto (off := 4) (by decide +kernel) (by decide)
theorem i142_51 : m_G 142 51 L st μ = m_G 142 52 L (.int 0 :: st) μ := g_iconst (n := 0) (by decide +kernel) (by decide)
theorem i142_52 : m_G 142 52 [v0, v1, v2, v3, v4] (.int x0 :: st) μ = m_G 142 54 [v0, v1, v2, v3, .int x0] st μ := g_istore (i := 4) (by decide +kernel) (Nat.le_of_ble_eq_true rfl) rfl
theorem i142_54 : m_G 142 54 [.ref a0, v1, v2, v3, v4] st μ = m_G 142 55 [.ref a0, v1, v2, v3, v4] (.ref a0 :: st) μ := g_aload_n (i := 0) (by decide +kernel) rfl
theorem i142_55 : m_G 142 55 L (.ref a0 :: st) μ = b_v (m_gf μ a0 9 22) 142 58 L st μ := g_getf (i := 56) (by decide +kernel) (by decide +kernel)
theorem i142_58 : m_G 142 58 [v0, v1, v2, .int x0, v4] st μ = m_G 142 59 [v0, v1, v2, .int x0, v4] (.int x0 :: st) μ := g_iload_n (i := 3) (by decide +kernel) rfl
theorem i142_59 : m_G 142 59 L (.int x0 :: .ref a0 :: st) μ = b_i (m_gb μ a0 x0) 142 60 L st μ := g_bald (by decide +kernel)
theorem i142_60 : m_G 142 60 L (.int x0 :: st) μ = if x0 = 0 then m_G 142 72 L st μ else m_G 142 63 L st μ := g_ifeq (off := 12) (by decide +kernel) (by decide)
theorem i142_63 : m_G 142 63 [v0, v1, v2, v3, .int x0] st μ = m_G 142 65 [v0, v1, v2, v3, .int x0] (.int x0 :: st) μ := g_iload (i := 4) (by decide +kernel) rfl
theorem i142_65 : m_G 142 65 L (.int x0 :: st) μ = if x0 = 0 then m_G 142 72 L st μ else m_G 142 68 L st μ := g_ifeq (off := 7) (by decide +kernel) (by decide)
theorem i142_68 : m_G 142 68 [v0, v1, v2, .int x0, v4] st μ = m_G 142 69 [v0, v1, v2, .int x0, v4] (.int x0 :: st) μ := g_iload_n (i := 3) (by decide +kernel) rfl
theorem i142_69 : m_G 142 69 L st μ = m_G 142 73 L st μ := g_goto (off := 4) (by decide +kernel) (by decide)
theorem i142_72 : m_G 142 72 [v0, v1, .int x0, v3, v4] st μ = m_G 142 73 [v0, v1, .int x0, v3, v4] (.int x0 :: st) μ := g_iload_n (i := 2) (by decide +kernel) rfl
theorem i142_73 : m_G 142 73 [v0, v1, v2, v3, v4] (.int x0 :: st) μ = m_G 142 74 [v0, v1, .int x0, v3, v4] st μ := g_istore_n (i := 2) (by decide +kernel) (Nat.le_of_ble_eq_true rfl) rfl
theorem i142_74 : m_G 142 74 [v0, v1, v2, .int x0, v4] st μ = m_G 142 77 [v0, v1, v2, .int (x0 + (-1)), v4] st μ := g_iinc (i := 3) (n := -1) (by decide +kernel) rfl (by decide) rfl
theorem i142_77 : m_G 142 77 L st μ = m_G 142 19 L st μ := g_goto (off := -58) (by decide +kernel) (by decide)
theorem i142_80 : m_G 142 80 [v0, v1, .int x0, v3, v4] st μ = m_G 142 81 [v0, v1, .int x0, v3, v4] (.int x0 :: st) μ := g_iload_n (i := 2) (by decide +kernel) rfl
theorem i142_81 : m_G 142 81 L [.int x0] μ = some (some (.int x0), μ) := g_ireti (by decide +kernel) (by decide)
theorem D142 : m_D 142 [.ref a0, .int x0] μ = m_G 142 0 [.ref a0, .int x0, m_d, m_d, m_d] [] μ := d_def (by decide) rfl
theorem i143_0 : m_G 143 0 [v0, .int x0, v2] st μ = m_G 143 1 [v0, .int x0, v2] (.int x0 :: st) μ := g_iload_n (i := 1) (by decide +kernel) rfl
theorem i143_1 : m_G 143 1 L (.int x0 :: st) μ = m_G 143 2 L (.long x0.toInt64 :: st) μ := g_i2l (by decide +kernel)
theorem i143_2 : m_G 143 2 L st μ = m_G 143 3 L (.long 0 :: st) μ := g_lconst (n := 0) (by decide +kernel) (by decide)
theorem i143_3 : m_G 143 3 L st μ = m_G 143 6 L (.long (3) :: st) μ := g_ldc2_w (i := 225) (by decide +kernel) (by decide +kernel)
theorem i143_6 : m_G 143 6 L (.long l2 :: .long l1 :: .long l0 :: []) μ = b_c (m_D 102 [.long l0, .long l1, .long l2] μ) 143 9 L [] := g_stat (i := 102) (n := 3) (by decide +kernel) (by decide +kernel) (by decide) (x_call_ok (ws := [2, 2, 2]) (Nat.le_of_ble_eq_true rfl) rfl (by decide +kernel) rfl (by decide +kernel) rfl rfl)
theorem i143_9 : m_G 143 9 L (.int x0 :: st) μ = if x0 = 0 then m_G 143 12 L st μ else m_G 143 15 L st μ := g_ifne (off := 6) (by decide +kernel) (by decide)
theorem i143_12 : m_G 143 12 L st μ = m_G 143 14 L (.int (-102) :: st) μ := g_bipush (n := -102) (by decide +kernel) (by decide)
theorem i143_14 : m_G 143 14 L [.int x0] μ = some (some (.int x0), μ) := g_ireti (by decide +kernel) (by decide)
theorem i143_15 : m_G 143 15 [.ref a0, v1, v2] st μ = m_G 143 16 [.ref a0, v1, v2] (.ref a0 :: st) μ := g_aload_n (i := 0) (by decide +kernel) rfl
theorem i143_16 : m_G 143 16 L (.ref a0 :: st) μ = b_v (m_gf μ a0 9 0) 143 19 L st μ := g_getf (i := 99) (by decide +kernel) (by decide +kernel)
theorem i143_19 : m_G 143 19 L (.int x0 :: st) μ = if x0 = 0 then m_G 143 22 L st μ else m_G 143 25 L st μ := g_ifne (off := 6) (by decide +kernel) (by decide)
theorem i143_22 : m_G 143 22 L st μ = m_G 143 24 L (.int (-103) :: st) μ := g_bipush (n := -103) (by decide +kernel) (by decide)
theorem i143_24 : m_G 143 24 L [.int x0] μ = some (some (.int x0), μ) := g_ireti (by decide +kernel) (by decide)
theorem i143_25 : m_G 143 25 [.ref a0, v1, v2] st μ = m_G 143 26 [.ref a0, v1, v2] (.ref a0 :: st) μ := g_aload_n (i := 0) (by decide +kernel) rfl
theorem i143_26 : m_G 143 26 [v0, .int x0, v2] st μ = m_G 143 27 [v0, .int x0, v2] (.int x0 :: st) μ := g_iload_n (i := 1) (by decide +kernel) rfl
theorem i143_27 : m_G 143 27 L st μ = m_G 143 28 L (.int 1 :: st) μ := g_iconst (n := 1) (by decide +kernel) (by decide)
theorem i143_28 : m_G 143 28 L (.int x1 :: .int x0 :: st) μ = if x1 < x0 then m_G 143 31 L st μ else m_G 143 35 L st μ := g_cmple (off := 7) (by decide +kernel) (by decide)
theorem i143_31 : m_G 143 31 L st μ = m_G 143 32 L (.int 1 :: st) μ := g_iconst (n := 1) (by decide +kernel) (by decide)
theorem i143_32 : m_G 143 32 L st μ = m_G 143 36 L st μ := g_goto (off := 4) (by decide +kernel) (by decide)
theorem i143_35 : m_G 143 35 L st μ = m_G 143 36 L (.int 0 :: st) μ := g_iconst (n := 0) (by decide +kernel) (by decide)
theorem i143_36 (ho : m_oc μ a0 = some 9) : m_G 143 36 L (.int x0 :: .ref a0 :: []) μ = b_c (m_D 142 [.ref a0, .int x0] μ) 143 39 L [] := g_virt (i := 227) (n := 1) (a := a0) (c := 9) (l := [(9, 142)]) (by decide +kernel) (by decide +kernel) rfl rfl (x_call_ok (ws := [1, 1]) (Nat.le_of_ble_eq_true rfl) rfl (by decide +kernel) rfl (by decide +kernel) rfl rfl) ho
theorem i143_39 : m_G 143 39 [v0, v1, v2] (.int x0 :: st) μ = m_G 143 40 [v0, v1, .int x0] st μ := g_istore_n (i := 2) (by decide +kernel) (Nat.le_of_ble_eq_true rfl) rfl
theorem i143_40 : m_G 143 40 [v0, .int x0, v2] st μ = m_G 143 41 [v0, .int x0, v2] (.int x0 :: st) μ := g_iload_n (i := 1) (by decide +kernel) rfl
theorem i143_41 : m_G 143 41 L (.int x0 :: st) μ = if x0 = 0 then m_G 143 44 L st μ else m_G 143 49 L st μ := g_ifne (off := 8) (by decide +kernel) (by decide)
theorem i143_44 : m_G 143 44 [.ref a0, v1, v2] st μ = m_G 143 45 [.ref a0, v1, v2] (.ref a0 :: st) μ := g_aload_n (i := 0) (by decide +kernel) rfl
theorem i143_45 : m_G 143 45 L (.ref a0 :: st) μ = b_v (m_gf μ a0 9 23) 143 48 L st μ := g_getf (i := 213) (by decide +kernel) (by decide +kernel)
theorem i143_48 : m_G 143 48 L [.int x0] μ = some (some (.int x0), μ) := g_ireti (by decide +kernel) (by decide)
theorem i143_49 : m_G 143 49 [v0, v1, .int x0] st μ = m_G 143 50 [v0, v1, .int x0] (.int x0 :: st) μ := g_iload_n (i := 2) (by decide +kernel) rfl
theorem i143_50 : m_G 143 50 L st μ = m_G 143 51 L (.int (-1) :: st) μ := g_iconst (n := -1) (by decide +kernel) (by decide)
theorem i143_51 : m_G 143 51 L (.int x1 :: .int x0 :: st) μ = if x0 = x1 then m_G 143 54 L st μ else m_G 143 58 L st μ := g_cmpne (off := 7) (by decide +kernel) (by decide)
theorem i143_54 : m_G 143 54 L st μ = m_G 143 55 L (.int (-1) :: st) μ := g_iconst (n := -1) (by decide +kernel) (by decide)
theorem i143_55 : m_G 143 55 L st μ = m_G 143 76 L st μ := g_goto (off := 21) (by decide +kernel) (by decide)
theorem i143_58 : m_G 143 58 [v0, .int x0, v2] st μ = m_G 143 59 [v0, .int x0, v2] (.int x0 :: st) μ := g_iload_n (i := 1) (by decide +kernel) rfl
theorem i143_59 : m_G 143 59 L st μ = m_G 143 60 L (.int 3 :: st) μ := g_iconst (n := 3) (by decide +kernel) (by decide)
theorem i143_60 : m_G 143 60 L (.int x1 :: .int x0 :: st) μ = if x0 = x1 then m_G 143 63 L st μ else m_G 143 72 L st μ := g_cmpne (off := 12) (by decide +kernel) (by decide)
theorem i143_63 : m_G 143 63 [.ref a0, v1, v2] st μ = m_G 143 64 [.ref a0, v1, v2] (.ref a0 :: st) μ := g_aload_n (i := 0) (by decide +kernel) rfl
theorem i143_64 : m_G 143 64 L (.ref a0 :: st) μ = b_v (m_gf μ a0 9 24) 143 67 L st μ := g_getf (i := 59) (by decide +kernel) (by decide +kernel)
theorem i143_67 : m_G 143 67 [v0, v1, .int x0] st μ = m_G 143 68 [v0, v1, .int x0] (.int x0 :: st) μ := g_iload_n (i := 2) (by decide +kernel) rfl
theorem i143_68 : m_G 143 68 L (.int x0 :: .ref a0 :: st) μ = b_i (m_ga μ a0 x0) 143 69 L st μ := g_iald (by decide +kernel)
theorem i143_69 : m_G 143 69 L st μ = m_G 143 76 L st μ := g_goto (off := 7) (by decide +kernel) (by decide)
theorem i143_72 : m_G 143 72 [v0, v1, .int x0] st μ = m_G 143 73 [v0, v1, .int x0] (.int x0 :: st) μ := g_iload_n (i := 2) (by decide +kernel) rfl
theorem i143_73 : m_G 143 73 L (.int x0 :: []) μ = b_c (m_D 135 [.int x0] μ) 143 76 L [] := g_stat (i := 195) (n := 1) (by decide +kernel) (by decide +kernel) (by decide) (x_call_ok (ws := [1]) (Nat.le_of_ble_eq_true rfl) rfl (by decide +kernel) rfl (by decide +kernel) rfl rfl)
theorem i143_76 : m_G 143 76 L [.int x0] μ = some (some (.int x0), μ) := g_ireti (by decide +kernel) (by decide)
theorem D143 : m_D 143 [.ref a0, .int x0] μ = m_G 143 0 [.ref a0, .int x0, m_d] [] μ := d_def (by decide) rfl
theorem i144_0 : m_G 144 0 [v0, .int x0, v2, v3] st μ = m_G 144 1 [v0, .int x0, v2, v3] (.int x0 :: st) μ := g_iload_n (i := 1) (by decide +kernel) rfl
theorem i144_1 : m_G 144 1 L (.int x0 :: st) μ = m_G 144 2 L (.long x0.toInt64 :: st) μ := g_i2l (by decide +kernel)
theorem i144_2 : m_G 144 2 L st μ = m_G 144 3 L (.long 0 :: st) μ := g_lconst (n := 0) (by decide +kernel) (by decide)
theorem i144_3 : m_G 144 3 L st μ = m_G 144 4 L (.long 1 :: st) μ := g_lconst (n := 1) (by decide +kernel) (by decide)
theorem i144_4 : m_G 144 4 L (.long l2 :: .long l1 :: .long l0 :: []) μ = b_c (m_D 102 [.long l0, .long l1, .long l2] μ) 144 7 L [] := g_stat (i := 102) (n := 3) (by decide +kernel) (by decide +kernel) (by decide) (x_call_ok (ws := [2, 2, 2]) (Nat.le_of_ble_eq_true rfl) rfl (by decide +kernel) rfl (by decide +kernel) rfl rfl)
theorem i144_7 : m_G 144 7 L (.int x0 :: st) μ = if x0 = 0 then m_G 144 22 L st μ else m_G 144 10 L st μ := g_ifeq (off := 15) (by decide +kernel) (by decide)
theorem i144_10 : m_G 144 10 [v0, v1, .int x0, v3] st μ = m_G 144 11 [v0, v1, .int x0, v3] (.int x0 :: st) μ := g_iload_n (i := 2) (by decide +kernel) rfl
theorem i144_11 : m_G 144 11 L (.int x0 :: st) μ = m_G 144 12 L (.long x0.toInt64 :: st) μ := g_i2l (by decide +kernel)
theorem i144_12 : m_G 144 12 L st μ = m_G 144 13 L (.long 0 :: st) μ := g_lconst (n := 0) (by decide +kernel) (by decide)
theorem i144_13 : m_G 144 13 L st μ = m_G 144 16 L (.long (2) :: st) μ := g_ldc2_w (i := 193) (by decide +kernel) (by decide +kernel)
theorem i144_16 : m_G 144 16 L (.long l2 :: .long l1 :: .long l0 :: []) μ = b_c (m_D 102 [.long l0, .long l1, .long l2] μ) 144 19 L [] := g_stat (i := 102) (n := 3) (by decide +kernel) (by decide +kernel) (by decide) (x_call_ok (ws := [2, 2, 2]) (Nat.le_of_ble_eq_true rfl) rfl (by decide +kernel) rfl (by decide +kernel) rfl rfl)
theorem i144_19 : m_G 144 19 L (.int x0 :: st) μ = if x0 = 0 then m_G 144 22 L st μ else m_G 144 25 L st μ := g_ifne (off := 6) (by decide +kernel) (by decide)
theorem i144_22 : m_G 144 22 L st μ = m_G 144 24 L (.int (-102) :: st) μ := g_bipush (n := -102) (by decide +kernel) (by decide)
theorem i144_24 : m_G 144 24 L [.int x0] μ = some (some (.int x0), μ) := g_ireti (by decide +kernel) (by decide)
theorem i144_25 : m_G 144 25 [.ref a0, v1, v2, v3] st μ = m_G 144 26 [.ref a0, v1, v2, v3] (.ref a0 :: st) μ := g_aload_n (i := 0) (by decide +kernel) rfl
theorem i144_26 : m_G 144 26 L (.ref a0 :: st) μ = b_v (m_gf μ a0 9 0) 144 29 L st μ := g_getf (i := 99) (by decide +kernel) (by decide +kernel)
theorem i144_29 : m_G 144 29 L (.int x0 :: st) μ = if x0 = 0 then m_G 144 32 L st μ else m_G 144 35 L st μ := g_ifne (off := 6) (by decide +kernel) (by decide)
theorem i144_32 : m_G 144 32 L st μ = m_G 144 34 L (.int (-103) :: st) μ := g_bipush (n := -103) (by decide +kernel) (by decide)
theorem i144_34 : m_G 144 34 L [.int x0] μ = some (some (.int x0), μ) := g_ireti (by decide +kernel) (by decide)
theorem i144_35 : m_G 144 35 [.ref a0, v1, v2, v3] st μ = m_G 144 36 [.ref a0, v1, v2, v3] (.ref a0 :: st) μ := g_aload_n (i := 0) (by decide +kernel) rfl
theorem i144_36 : m_G 144 36 [v0, .int x0, v2, v3] st μ = m_G 144 37 [v0, .int x0, v2, v3] (.int x0 :: st) μ := g_iload_n (i := 1) (by decide +kernel) rfl
theorem i144_37 (ho : m_oc μ a0 = some 9) : m_G 144 37 L (.int x0 :: .ref a0 :: []) μ = b_c (m_D 142 [.ref a0, .int x0] μ) 144 40 L [] := g_virt (i := 227) (n := 1) (a := a0) (c := 9) (l := [(9, 142)]) (by decide +kernel) (by decide +kernel) rfl rfl (x_call_ok (ws := [1, 1]) (Nat.le_of_ble_eq_true rfl) rfl (by decide +kernel) rfl (by decide +kernel) rfl rfl) ho
theorem i144_40 : m_G 144 40 [v0, v1, v2, v3] (.int x0 :: st) μ = m_G 144 41 [v0, v1, v2, .int x0] st μ := g_istore_n (i := 3) (by decide +kernel) (Nat.le_of_ble_eq_true rfl) rfl
theorem i144_41 : m_G 144 41 [v0, v1, v2, .int x0] st μ = m_G 144 42 [v0, v1, v2, .int x0] (.int x0 :: st) μ := g_iload_n (i := 3) (by decide +kernel) rfl
theorem i144_42 : m_G 144 42 L st μ = m_G 144 43 L (.int (-1) :: st) μ := g_iconst (n := -1) (by decide +kernel) (by decide)
theorem i144_43 : m_G 144 43 L (.int x1 :: .int x0 :: st) μ = if x0 = x1 then m_G 144 46 L st μ else m_G 144 50 L st μ := g_cmpne (off := 7) (by decide +kernel) (by decide)
theorem i144_46 : m_G 144 46 L st μ = m_G 144 47 L (.int (-1) :: st) μ := g_iconst (n := -1) (by decide +kernel) (by decide)
theorem i144_47 : m_G 144 47 L st μ = m_G 144 55 L st μ := g_goto (off := 8) (by decide +kernel) (by decide)
theorem i144_50 : m_G 144 50 [v0, v1, v2, .int x0] st μ = m_G 144 51 [v0, v1, v2, .int x0] (.int x0 :: st) μ := g_iload_n (i := 3) (by decide +kernel) rfl
theorem i144_51 : m_G 144 51 [v0, v1, .int x0, v3] st μ = m_G 144 52 [v0, v1, .int x0, v3] (.int x0 :: st) μ := g_iload_n (i := 2) (by decide +kernel) rfl
theorem i144_52 : m_G 144 52 L (.int x1 :: .int x0 :: []) μ = b_c (m_D 136 [.int x0, .int x1] μ) 144 55 L [] := g_stat (i := 201) (n := 2) (by decide +kernel) (by decide +kernel) (by decide) (x_call_ok (ws := [1, 1]) (Nat.le_of_ble_eq_true rfl) rfl (by decide +kernel) rfl (by decide +kernel) rfl rfl)
theorem i144_55 : m_G 144 55 L [.int x0] μ = some (some (.int x0), μ) := g_ireti (by decide +kernel) (by decide)
theorem D144 : m_D 144 [.ref a0, .int x0, .int x1] μ = m_G 144 0 [.ref a0, .int x0, .int x1, m_d] [] μ := d_def (by decide) rfl
theorem i145_0 : m_G 145 0 [.ref a0, v1, v2, v3, v4] st μ = m_G 145 1 [.ref a0, v1, v2, v3, v4] (.ref a0 :: st) μ := g_aload_n (i := 0) (by decide +kernel) rfl
theorem i145_1 : m_G 145 1 [v0, .int x0, v2, v3, v4] st μ = m_G 145 2 [v0, .int x0, v2, v3, v4] (.int x0 :: st) μ := g_iload_n (i := 1) (by decide +kernel) rfl
theorem i145_2 (ho : m_oc μ a0 = some 9) : m_G 145 2 L (.int x0 :: .ref a0 :: []) μ = b_c (m_D 138 [.ref a0, .int x0] μ) 145 5 L [] := g_virt (i := 204) (n := 1) (a := a0) (c := 9) (l := [(9, 138)]) (by decide +kernel) (by decide +kernel) rfl rfl (x_call_ok (ws := [1, 1]) (Nat.le_of_ble_eq_true rfl) rfl (by decide +kernel) rfl (by decide +kernel) rfl rfl) ho
theorem i145_5 : m_G 145 5 L st μ = m_G 145 6 L (.int 0 :: st) μ := g_iconst (n := 0) (by decide +kernel) (by decide)
theorem i145_6 : m_G 145 6 [v0, v1, v2, v3, v4] (.int x0 :: st) μ = m_G 145 7 [v0, v1, .int x0, v3, v4] st μ := g_istore_n (i := 2) (by decide +kernel) (Nat.le_of_ble_eq_true rfl) rfl
theorem i145_7 : m_G 145 7 [v0, v1, .int x0, v3, v4] st μ = m_G 145 8 [v0, v1, .int x0, v3, v4] (.int x0 :: st) μ := g_iload_n (i := 2) (by decide +kernel) rfl
theorem i145_8 : m_G 145 8 L st μ = m_G 145 10 L (.int 24 :: st) μ := g_bipush (n := 24) (by decide +kernel) (by decide)
theorem i145_10 : m_G 145 10 L (.int x1 :: .int x0 :: st) μ = if x0 < x1 then m_G 145 13 L st μ else m_G 145 26 L st μ := g_cmpge (off := 16) (by decide +kernel) (by decide)
theorem i145_13 : m_G 145 13 [.ref a0, v1, v2, v3, v4] st μ = m_G 145 14 [.ref a0, v1, v2, v3, v4] (.ref a0 :: st) μ := g_aload_n (i := 0) (by decide +kernel) rfl
theorem i145_14 : m_G 145 14 L (.ref a0 :: st) μ = b_v (m_gf μ a0 9 26) 145 17 L st μ := g_getf (i := 65) (by decide +kernel) (by decide +kernel)
theorem i145_17 : m_G 145 17 [v0, v1, .int x0, v3, v4] st μ = m_G 145 18 [v0, v1, .int x0, v3, v4] (.int x0 :: st) μ := g_iload_n (i := 2) (by decide +kernel) rfl
theorem i145_18 : m_G 145 18 L st μ = m_G 145 19 L (.int 0 :: st) μ := g_iconst (n := 0) (by decide +kernel) (by decide)
theorem i145_19 : m_G 145 19 L (.int x1 :: .int x0 :: .ref a0 :: st) μ = b_m (m_pa μ a0 x0 x1) 145 20 L st := g_iast (by decide +kernel)
theorem i145_20 : m_G 145 20 [v0, v1, .int x0, v3, v4] st μ = m_G 145 23 [v0, v1, .int (x0 + 1), v3, v4] st μ := g_iinc (i := 2) (n := 1) (by decide +kernel) rfl (by decide) rfl
theorem i145_23 : m_G 145 23 L st μ = m_G 145 7 L st μ := g_goto (off := -16) (by decide +kernel) (by decide)
theorem i145_26 : m_G 145 26 L st μ = m_G 145 27 L (.int 0 :: st) μ := g_iconst (n := 0) (by decide +kernel) (by decide)
theorem i145_27 : m_G 145 27 [v0, v1, v2, v3, v4] (.int x0 :: st) μ = m_G 145 28 [v0, v1, .int x0, v3, v4] st μ := g_istore_n (i := 2) (by decide +kernel) (Nat.le_of_ble_eq_true rfl) rfl
theorem i145_28 : m_G 145 28 [v0, v1, .int x0, v3, v4] st μ = m_G 145 29 [v0, v1, .int x0, v3, v4] (.int x0 :: st) μ := g_iload_n (i := 2) (by decide +kernel) rfl
theorem i145_29 : m_G 145 29 L st μ = m_G 145 32 L (.int 3615 :: st) μ := g_sipush (n := 3615) (by decide +kernel) (by decide)
theorem i145_32 : m_G 145 32 L (.int x1 :: .int x0 :: st) μ = if x0 < x1 then m_G 145 35 L st μ else m_G 145 92 L st μ := g_cmpge (off := 60) (by decide +kernel) (by decide)
theorem i145_35 : m_G 145 35 [.ref a0, v1, v2, v3, v4] st μ = m_G 145 36 [.ref a0, v1, v2, v3, v4] (.ref a0 :: st) μ := g_aload_n (i := 0) (by decide +kernel) rfl
theorem i145_36 : m_G 145 36 L (.ref a0 :: st) μ = b_v (m_gf μ a0 9 22) 145 39 L st μ := g_getf (i := 56) (by decide +kernel) (by decide +kernel)
theorem i145_39 : m_G 145 39 [v0, v1, .int x0, v3, v4] st μ = m_G 145 40 [v0, v1, .int x0, v3, v4] (.int x0 :: st) μ := g_iload_n (i := 2) (by decide +kernel) rfl
theorem i145_40 : m_G 145 40 L (.int x0 :: .ref a0 :: st) μ = b_i (m_gb μ a0 x0) 145 41 L st μ := g_bald (by decide +kernel)
theorem i145_41 : m_G 145 41 L (.int x0 :: st) μ = if x0 = 0 then m_G 145 52 L st μ else m_G 145 44 L st μ := g_ifeq (off := 11) (by decide +kernel) (by decide)
theorem i145_44 : m_G 145 44 [.ref a0, v1, v2, v3, v4] st μ = m_G 145 45 [.ref a0, v1, v2, v3, v4] (.ref a0 :: st) μ := g_aload_n (i := 0) (by decide +kernel) rfl
theorem i145_45 : m_G 145 45 [v0, v1, .int x0, v3, v4] st μ = m_G 145 46 [v0, v1, .int x0, v3, v4] (.int x0 :: st) μ := g_iload_n (i := 2) (by decide +kernel) rfl
theorem i145_46 (ho : m_oc μ a0 = some 9) : m_G 145 46 L (.int x0 :: .ref a0 :: []) μ = b_c (m_D 139 [.ref a0, .int x0] μ) 145 49 L [] := g_virt (i := 210) (n := 1) (a := a0) (c := 9) (l := [(9, 139)]) (by decide +kernel) (by decide +kernel) rfl rfl (x_call_ok (ws := [1, 1]) (Nat.le_of_ble_eq_true rfl) rfl (by decide +kernel) rfl (by decide +kernel) rfl rfl) ho
theorem i145_49 : m_G 145 49 L st μ = m_G 145 53 L st μ := g_goto (off := 4) (by decide +kernel) (by decide)
theorem i145_52 : m_G 145 52 L st μ = m_G 145 53 L (.int 0 :: st) μ := g_iconst (n := 0) (by decide +kernel) (by decide)
theorem i145_53 : m_G 145 53 [v0, v1, v2, v3, v4] (.int x0 :: st) μ = m_G 145 54 [v0, v1, v2, .int x0, v4] st μ := g_istore_n (i := 3) (by decide +kernel) (Nat.le_of_ble_eq_true rfl) rfl
theorem i145_54 : m_G 145 54 L st μ = m_G 145 55 L (.int 0 :: st) μ := g_iconst (n := 0) (by decide +kernel) (by decide)
theorem i145_55 : m_G 145 55 [v0, v1, v2, v3, v4] (.int x0 :: st) μ = m_G 145 57 [v0, v1, v2, v3, .int x0] st μ := g_istore (i := 4) (by decide +kernel) (Nat.le_of_ble_eq_true rfl) rfl
theorem i145_57 : m_G 145 57 [v0, v1, v2, v3, .int x0] st μ = m_G 145 59 [v0, v1, v2, v3, .int x0] (.int x0 :: st) μ := g_iload (i := 4) (by decide +kernel) rfl
theorem i145_59 : m_G 145 59 L st μ = m_G 145 61 L (.int 24 :: st) μ := g_bipush (n := 24) (by decide +kernel) (by decide)
theorem i145_61 : m_G 145 61 L (.int x1 :: .int x0 :: st) μ = if x0 < x1 then m_G 145 64 L st μ else m_G 145 86 L st μ := g_cmpge (off := 25) (by decide +kernel) (by decide)
theorem i145_64 : m_G 145 64 [.ref a0, v1, v2, v3, v4] st μ = m_G 145 65 [.ref a0, v1, v2, v3, v4] (.ref a0 :: st) μ := g_aload_n (i := 0) (by decide +kernel) rfl
theorem i145_65 : m_G 145 65 L (.ref a0 :: st) μ = b_v (m_gf μ a0 9 26) 145 68 L st μ := g_getf (i := 65) (by decide +kernel) (by decide +kernel)
theorem i145_68 : m_G 145 68 [v0, v1, v2, v3, .int x0] st μ = m_G 145 70 [v0, v1, v2, v3, .int x0] (.int x0 :: st) μ := g_iload (i := 4) (by decide +kernel) rfl
theorem i145_70 : m_G 145 70 L (.int x0 :: .ref a0 :: st) μ = m_G 145 71 L (.int x0 :: .ref a0 :: .int x0 :: .ref a0 :: st) μ := g_dup2 (by decide +kernel)
theorem i145_71 : m_G 145 71 L (.int x0 :: .ref a0 :: st) μ = b_i (m_ga μ a0 x0) 145 72 L st μ := g_iald (by decide +kernel)
theorem i145_72 : m_G 145 72 [v0, v1, v2, .int x0, v4] st μ = m_G 145 73 [v0, v1, v2, .int x0, v4] (.int x0 :: st) μ := g_iload_n (i := 3) (by decide +kernel) rfl
theorem i145_73 : m_G 145 73 [v0, v1, v2, v3, .int x0] st μ = m_G 145 75 [v0, v1, v2, v3, .int x0] (.int x0 :: st) μ := g_iload (i := 4) (by decide +kernel) rfl
theorem i145_75 : m_G 145 75 L (.int x1 :: .int x0 :: st) μ = m_G 145 76 L (.int (x0 >>> (x1 &&& 31)) :: st) μ := g_ishr (by decide +kernel)
theorem i145_76 : m_G 145 76 L st μ = m_G 145 77 L (.int 1 :: st) μ := g_iconst (n := 1) (by decide +kernel) (by decide)
theorem i145_77 : m_G 145 77 L (.int x1 :: .int x0 :: st) μ = m_G 145 78 L (.int (x0 &&& x1) :: st) μ := g_iand (by decide +kernel)
theorem i145_78 : m_G 145 78 L (.int x1 :: .int x0 :: st) μ = m_G 145 79 L (.int (x0 + x1) :: st) μ := g_iadd (by decide +kernel)
theorem i145_79 : m_G 145 79 L (.int x1 :: .int x0 :: .ref a0 :: st) μ = b_m (m_pa μ a0 x0 x1) 145 80 L st := g_iast (by decide +kernel)
theorem i145_80 : m_G 145 80 [v0, v1, v2, v3, .int x0] st μ = m_G 145 83 [v0, v1, v2, v3, .int (x0 + 1)] st μ := g_iinc (i := 4) (n := 1) (by decide +kernel) rfl (by decide) rfl
theorem i145_83 : m_G 145 83 L st μ = m_G 145 57 L st μ := g_goto (off := -26) (by decide +kernel) (by decide)
theorem i145_86 : m_G 145 86 [v0, v1, .int x0, v3, v4] st μ = m_G 145 89 [v0, v1, .int (x0 + 1), v3, v4] st μ := g_iinc (i := 2) (n := 1) (by decide +kernel) rfl (by decide) rfl
theorem i145_89 : m_G 145 89 L st μ = m_G 145 28 L st μ := g_goto (off := -61) (by decide +kernel) (by decide)
theorem i145_92 : m_G 145 92 L [] μ = some (none, μ) := g_ret (by decide +kernel) (by decide)
theorem D145 : m_D 145 [.ref a0, .int x0] μ = m_G 145 0 [.ref a0, .int x0, m_d, m_d, m_d] [] μ := d_def (by decide) rfl
theorem i146_0 : m_G 146 0 [.ref a0, v1, v2] st μ = m_G 146 1 [.ref a0, v1, v2] (.ref a0 :: st) μ := g_aload_n (i := 0) (by decide +kernel) rfl
theorem i146_1 : m_G 146 1 [v0, .int x0, v2] st μ = m_G 146 2 [v0, .int x0, v2] (.int x0 :: st) μ := g_iload_n (i := 1) (by decide +kernel) rfl
theorem i146_2 : m_G 146 2 [v0, v1, .int x0] st μ = m_G 146 3 [v0, v1, .int x0] (.int x0 :: st) μ := g_iload_n (i := 2) (by decide +kernel) rfl
theorem i146_3 (ho : m_oc μ a0 = some 9) : m_G 146 3 L (.int x1 :: .int x0 :: .ref a0 :: []) μ = b_c (m_D 106 [.ref a0, .int x0, .int x1] μ) 146 6 L [] := g_virt (i := 164) (n := 2) (a := a0) (c := 9) (l := [(9, 106)]) (by decide +kernel) (by decide +kernel) rfl rfl (x_call_ok (ws := [1, 1, 1]) (Nat.le_of_ble_eq_true rfl) rfl (by decide +kernel) rfl (by decide +kernel) rfl rfl) ho
theorem i146_6 : m_G 146 6 L (.int x0 :: st) μ = if x0 = 0 then m_G 146 9 L st μ else m_G 146 12 L st μ := g_ifne (off := 6) (by decide +kernel) (by decide)
theorem i146_9 : m_G 146 9 L st μ = m_G 146 11 L (.int (-101) :: st) μ := g_bipush (n := -101) (by decide +kernel) (by decide)
theorem i146_11 : m_G 146 11 L [.int x0] μ = some (some (.int x0), μ) := g_ireti (by decide +kernel) (by decide)
theorem i146_12 : m_G 146 12 [.ref a0, v1, v2] st μ = m_G 146 13 [.ref a0, v1, v2] (.ref a0 :: st) μ := g_aload_n (i := 0) (by decide +kernel) rfl
theorem i146_13 (ho : m_oc μ a0 = some 9) : m_G 146 13 L (.ref a0 :: []) μ = b_c (m_D 140 [.ref a0] μ) 146 16 L [] := g_virt (i := 219) (n := 0) (a := a0) (c := 9) (l := [(9, 140)]) (by decide +kernel) (by decide +kernel) rfl rfl (x_call_ok (ws := [1]) (Nat.le_of_ble_eq_true rfl) rfl (by decide +kernel) rfl (by decide +kernel) rfl rfl) ho
theorem i146_16 : m_G 146 16 [.ref a0, v1, v2] st μ = m_G 146 17 [.ref a0, v1, v2] (.ref a0 :: st) μ := g_aload_n (i := 0) (by decide +kernel) rfl
theorem i146_17 : m_G 146 17 [v0, .int x0, v2] st μ = m_G 146 18 [v0, .int x0, v2] (.int x0 :: st) μ := g_iload_n (i := 1) (by decide +kernel) rfl
theorem i146_18 (ho : m_oc μ a0 = some 9) : m_G 146 18 L (.int x0 :: .ref a0 :: []) μ = b_c (m_D 145 [.ref a0, .int x0] μ) 146 21 L [] := g_virt (i := 230) (n := 1) (a := a0) (c := 9) (l := [(9, 145)]) (by decide +kernel) (by decide +kernel) rfl rfl (x_call_ok (ws := [1, 1]) (Nat.le_of_ble_eq_true rfl) rfl (by decide +kernel) rfl (by decide +kernel) rfl rfl) ho
theorem i146_21 : m_G 146 21 [.ref a0, v1, v2] st μ = m_G 146 22 [.ref a0, v1, v2] (.ref a0 :: st) μ := g_aload_n (i := 0) (by decide +kernel) rfl
theorem i146_22 : m_G 146 22 L (.ref a0 :: st) μ = b_v (m_gf μ a0 9 26) 146 25 L st μ := g_getf (i := 65) (by decide +kernel) (by decide +kernel)
theorem i146_25 : m_G 146 25 [v0, v1, .int x0] st μ = m_G 146 26 [v0, v1, .int x0] (.int x0 :: st) μ := g_iload_n (i := 2) (by decide +kernel) rfl
theorem i146_26 : m_G 146 26 L (.int x0 :: .ref a0 :: st) μ = b_i (m_ga μ a0 x0) 146 27 L st μ := g_iald (by decide +kernel)
theorem i146_27 : m_G 146 27 L [.int x0] μ = some (some (.int x0), μ) := g_ireti (by decide +kernel) (by decide)
theorem D146 : m_D 146 [.ref a0, .int x0, .int x1] μ = m_G 146 0 [.ref a0, .int x0, .int x1] [] μ := d_def (by decide) rfl
theorem i147_0 : m_G 147 0 [v0, .int x0, v2, v3, v4, v5, v6, v7, v8] st μ = m_G 147 1 [v0, .int x0, v2, v3, v4, v5, v6, v7, v8] (.int x0 :: st) μ := g_iload_n (i := 1) (by decide +kernel) rfl
theorem i147_1 : m_G 147 1 L (.int x0 :: st) μ = m_G 147 2 L (.long x0.toInt64 :: st) μ := g_i2l (by decide +kernel)
theorem i147_2 : m_G 147 2 L st μ = m_G 147 3 L (.long 0 :: st) μ := g_lconst (n := 0) (by decide +kernel) (by decide)
theorem i147_3 : m_G 147 3 L st μ = m_G 147 6 L (.long (2) :: st) μ := g_ldc2_w (i := 193) (by decide +kernel) (by decide +kernel)
theorem i147_6 : m_G 147 6 L (.long l2 :: .long l1 :: .long l0 :: []) μ = b_c (m_D 102 [.long l0, .long l1, .long l2] μ) 147 9 L [] := g_stat (i := 102) (n := 3) (by decide +kernel) (by decide +kernel) (by decide) (x_call_ok (ws := [2, 2, 2]) (Nat.le_of_ble_eq_true rfl) rfl (by decide +kernel) rfl (by decide +kernel) rfl rfl)
theorem i147_9 : m_G 147 9 L (.int x0 :: st) μ = if x0 = 0 then m_G 147 12 L st μ else m_G 147 15 L st μ := g_ifne (off := 6) (by decide +kernel) (by decide)
theorem i147_12 : m_G 147 12 L st μ = m_G 147 14 L (.int (-102) :: st) μ := g_bipush (n := -102) (by decide +kernel) (by decide)
theorem i147_14 : m_G 147 14 L [.int x0] μ = some (some (.int x0), μ) := g_ireti (by decide +kernel) (by decide)
theorem i147_15 : m_G 147 15 [.ref a0, v1, v2, v3, v4, v5, v6, v7, v8] st μ = m_G 147 16 [.ref a0, v1, v2, v3, v4, v5, v6, v7, v8] (.ref a0 :: st) μ := g_aload_n (i := 0) (by decide +kernel) rfl
theorem i147_16 (ho : m_oc μ a0 = some 9) : m_G 147 16 L (.ref a0 :: []) μ = b_c (m_D 140 [.ref a0] μ) 147 19 L [] := g_virt (i := 219) (n := 0) (a := a0) (c := 9) (l := [(9, 140)]) (by decide +kernel) (by decide +kernel) rfl rfl (x_call_ok (ws := [1]) (Nat.le_of_ble_eq_true rfl) rfl (by decide +kernel) rfl (by decide +kernel) rfl rfl) ho
theorem i147_19 : m_G 147 19 L st μ = m_G 147 20 L (.int (-1) :: st) μ := g_iconst (n := -1) (by decide +kernel) (by decide)
theorem i147_20 : m_G 147 20 [v0, v1, v2, v3, v4, v5, v6, v7, v8] (.int x0 :: st) μ = m_G 147 21 [v0, v1, .int x0, v3, v4, v5, v6, v7, v8] st μ := g_istore_n (i := 2) (by decide +kernel) (Nat.le_of_ble_eq_true rfl) rfl
theorem i147_21 : m_G 147 21 L st μ = m_G 147 22 L (.int (-1) :: st) μ := g_iconst (n := -1) (by decide +kernel) (by decide)
theorem i147_22 : m_G 147 22 [v0, v1, v2, v3, v4, v5, v6, v7, v8] (.int x0 :: st) μ = m_G 147 23 [v0, v1, v2, .int x0, v4, v5, v6, v7, v8] st μ := g_istore_n (i := 3) (by decide +kernel) (Nat.le_of_ble_eq_true rfl) rfl
theorem i147_23 : m_G 147 23 L st μ = m_G 147 24 L (.int 0 :: st) μ := g_iconst (n := 0) (by decide +kernel) (by decide)
theorem i147_24 : m_G 147 24 [v0, v1, v2, v3, v4, v5, v6, v7, v8] (.int x0 :: st) μ = m_G 147 26 [v0, v1, v2, v3, .int x0, v5, v6, v7, v8] st μ := g_istore (i := 4) (by decide +kernel) (Nat.le_of_ble_eq_true rfl) rfl
theorem i147_26 : m_G 147 26 [v0, v1, v2, v3, .int x0, v5, v6, v7, v8] st μ = m_G 147 28 [v0, v1, v2, v3, .int x0, v5, v6, v7, v8] (.int x0 :: st) μ := g_iload (i := 4) (by decide +kernel) rfl
theorem i147_28 : m_G 147 28 [.ref a0, v1, v2, v3, v4, v5, v6, v7, v8] st μ = m_G 147 29 [.ref a0, v1, v2, v3, v4, v5, v6, v7, v8] (.ref a0 :: st) μ := g_aload_n (i := 0) (by decide +kernel) rfl
theorem i147_29 : m_G 147 29 L (.ref a0 :: st) μ = b_v (m_gf μ a0 9 0) 147 32 L st μ := g_getf (i := 99) (by decide +kernel) (by decide +kernel)
theorem i147_32 : m_G 147 32 L (.int x1 :: .int x0 :: st) μ = if x0 < x1 then m_G 147 35 L st μ else m_G 147 184 L st μ := g_cmpge (off := 152) (by decide +kernel) (by decide)
theorem i147_35 : m_G 147 35 [.ref a0, v1, v2, v3, v4, v5, v6, v7, v8] st μ = m_G 147 36 [.ref a0, v1, v2, v3, v4, v5, v6, v7, v8] (.ref a0 :: st) μ := g_aload_n (i := 0) (by decide +kernel) rfl
theorem i147_36 : m_G 147 36 [v0, v1, v2, v3, .int x0, v5, v6, v7, v8] st μ = m_G 147 38 [v0, v1, v2, v3, .int x0, v5, v6, v7, v8] (.int x0 :: st) μ := g_iload (i := 4) (by decide +kernel) rfl
theorem i147_38 (ho : m_oc μ a0 = some 9) : m_G 147 38 L (.int x0 :: .ref a0 :: []) μ = b_c (m_D 145 [.ref a0, .int x0] μ) 147 41 L [] := g_virt (i := 230) (n := 1) (a := a0) (c := 9) (l := [(9, 145)]) (by decide +kernel) (by decide +kernel) rfl rfl (x_call_ok (ws := [1, 1]) (Nat.le_of_ble_eq_true rfl) rfl (by decide +kernel) rfl (by decide +kernel) rfl rfl) ho
theorem i147_41 : m_G 147 41 L st μ = m_G 147 42 L (.int 0 :: st) μ := g_iconst (n := 0) (by decide +kernel) (by decide)
theorem i147_42 : m_G 147 42 [v0, v1, v2, v3, v4, v5, v6, v7, v8] (.int x0 :: st) μ = m_G 147 44 [v0, v1, v2, v3, v4, .int x0, v6, v7, v8] st μ := g_istore (i := 5) (by decide +kernel) (Nat.le_of_ble_eq_true rfl) rfl
theorem i147_44 : m_G 147 44 [v0, v1, v2, v3, v4, .int x0, v6, v7, v8] st μ = m_G 147 46 [v0, v1, v2, v3, v4, .int x0, v6, v7, v8] (.int x0 :: st) μ := g_iload (i := 5) (by decide +kernel) rfl
theorem i147_46 : m_G 147 46 [.ref a0, v1, v2, v3, v4, v5, v6, v7, v8] st μ = m_G 147 47 [.ref a0, v1, v2, v3, v4, v5, v6, v7, v8] (.ref a0 :: st) μ := g_aload_n (i := 0) (by decide +kernel) rfl
theorem i147_47 : m_G 147 47 L (.ref a0 :: st) μ = b_v (m_gf μ a0 9 1) 147 50 L st μ := g_getf (i := 7) (by decide +kernel) (by decide +kernel)
theorem i147_50 : m_G 147 50 [v0, v1, v2, v3, .int x0, v5, v6, v7, v8] st μ = m_G 147 52 [v0, v1, v2, v3, .int x0, v5, v6, v7, v8] (.int x0 :: st) μ := g_iload (i := 4) (by decide +kernel) rfl
theorem i147_52 : m_G 147 52 L (.int x0 :: .ref a0 :: st) μ = b_i (m_ga μ a0 x0) 147 53 L st μ := g_iald (by decide +kernel)
theorem i147_53 : m_G 147 53 L (.int x1 :: .int x0 :: st) μ = if x0 < x1 then m_G 147 56 L st μ else m_G 147 178 L st μ := g_cmpge (off := 125) (by decide +kernel) (by decide)
theorem i147_56 : m_G 147 56 [.ref a0, v1, v2, v3, v4, v5, v6, v7, v8] st μ = m_G 147 57 [.ref a0, v1, v2, v3, v4, v5, v6, v7, v8] (.ref a0 :: st) μ := g_aload_n (i := 0) (by decide +kernel) rfl
theorem i147_57 : m_G 147 57 L (.ref a0 :: st) μ = b_v (m_gf μ a0 9 23) 147 60 L st μ := g_getf (i := 213) (by decide +kernel) (by decide +kernel)
theorem i147_60 : m_G 147 60 [.ref a0, v1, v2, v3, v4, v5, v6, v7, v8] st μ = m_G 147 61 [.ref a0, v1, v2, v3, v4, v5, v6, v7, v8] (.ref a0 :: st) μ := g_aload_n (i := 0) (by decide +kernel) rfl
theorem i147_61 : m_G 147 61 L (.ref a0 :: st) μ = b_v (m_gf μ a0 9 26) 147 64 L st μ := g_getf (i := 65) (by decide +kernel) (by decide +kernel)
theorem i147_64 : m_G 147 64 [v0, v1, v2, v3, v4, .int x0, v6, v7, v8] st μ = m_G 147 66 [v0, v1, v2, v3, v4, .int x0, v6, v7, v8] (.int x0 :: st) μ := g_iload (i := 5) (by decide +kernel) rfl
theorem i147_66 : m_G 147 66 L (.int x0 :: .ref a0 :: st) μ = b_i (m_ga μ a0 x0) 147 67 L st μ := g_iald (by decide +kernel)
theorem i147_67 : m_G 147 67 L (.int x1 :: .int x0 :: st) μ = m_G 147 68 L (.int (x0 - x1) :: st) μ := g_isub (by decide +kernel)
theorem i147_68 : m_G 147 68 [v0, v1, v2, v3, v4, v5, v6, v7, v8] (.int x0 :: st) μ = m_G 147 70 [v0, v1, v2, v3, v4, v5, .int x0, v7, v8] st μ := g_istore (i := 6) (by decide +kernel) (Nat.le_of_ble_eq_true rfl) rfl
theorem i147_70 : m_G 147 70 [.ref a0, v1, v2, v3, v4, v5, v6, v7, v8] st μ = m_G 147 71 [.ref a0, v1, v2, v3, v4, v5, v6, v7, v8] (.ref a0 :: st) μ := g_aload_n (i := 0) (by decide +kernel) rfl
theorem i147_71 : m_G 147 71 L (.ref a0 :: st) μ = b_v (m_gf μ a0 9 26) 147 74 L st μ := g_getf (i := 65) (by decide +kernel) (by decide +kernel)
theorem i147_74 : m_G 147 74 [v0, v1, v2, v3, v4, .int x0, v6, v7, v8] st μ = m_G 147 76 [v0, v1, v2, v3, v4, .int x0, v6, v7, v8] (.int x0 :: st) μ := g_iload (i := 5) (by decide +kernel) rfl
theorem i147_76 : m_G 147 76 L (.int x0 :: .ref a0 :: st) μ = b_i (m_ga μ a0 x0) 147 77 L st μ := g_iald (by decide +kernel)
theorem i147_77 : m_G 147 77 [v0, v1, v2, v3, v4, v5, .int x0, v7, v8] st μ = m_G 147 79 [v0, v1, v2, v3, v4, v5, .int x0, v7, v8] (.int x0 :: st) μ := g_iload (i := 6) (by decide +kernel) rfl
theorem i147_79 : m_G 147 79 L (.int x1 :: .int x0 :: st) μ = if x1 < x0 then m_G 147 82 L st μ else m_G 147 92 L st μ := g_cmple (off := 13) (by decide +kernel) (by decide)
theorem i147_82 : m_G 147 82 [.ref a0, v1, v2, v3, v4, v5, v6, v7, v8] st μ = m_G 147 83 [.ref a0, v1, v2, v3, v4, v5, v6, v7, v8] (.ref a0 :: st) μ := g_aload_n (i := 0) (by decide +kernel) rfl
theorem i147_83 : m_G 147 83 L (.ref a0 :: st) μ = b_v (m_gf μ a0 9 26) 147 86 L st μ := g_getf (i := 65) (by decide +kernel) (by decide +kernel)
theorem i147_86 : m_G 147 86 [v0, v1, v2, v3, v4, .int x0, v6, v7, v8] st μ = m_G 147 88 [v0, v1, v2, v3, v4, .int x0, v6, v7, v8] (.int x0 :: st) μ := g_iload (i := 5) (by decide +kernel) rfl
theorem i147_88 : m_G 147 88 L (.int x0 :: .ref a0 :: st) μ = b_i (m_ga μ a0 x0) 147 89 L st μ := g_iald (by decide +kernel)
theorem i147_89 : m_G 147 89 L st μ = m_G 147 94 L st μ := g_goto (off := 5) (by decide +kernel) (by decide)
theorem i147_92 : m_G 147 92 [v0, v1, v2, v3, v4, v5, .int x0, v7, v8] st μ = m_G 147 94 [v0, v1, v2, v3, v4, v5, .int x0, v7, v8] (.int x0 :: st) μ := g_iload (i := 6) (by decide +kernel) rfl
theorem i147_94 : m_G 147 94 [v0, v1, v2, v3, v4, v5, v6, v7, v8] (.int x0 :: st) μ = m_G 147 96 [v0, v1, v2, v3, v4, v5, v6, .int x0, v8] st μ := g_istore (i := 7) (by decide +kernel) (Nat.le_of_ble_eq_true rfl) rfl
theorem i147_96 : m_G 147 96 [.ref a0, v1, v2, v3, v4, v5, v6, v7, v8] st μ = m_G 147 97 [.ref a0, v1, v2, v3, v4, v5, v6, v7, v8] (.ref a0 :: st) μ := g_aload_n (i := 0) (by decide +kernel) rfl
theorem i147_97 : m_G 147 97 L (.ref a0 :: st) μ = b_v (m_gf μ a0 9 6) 147 100 L st μ := g_getf (i := 25) (by decide +kernel) (by decide +kernel)
theorem i147_100 : m_G 147 100 [v0, v1, v2, v3, .int x0, v5, v6, v7, v8] st μ = m_G 147 102 [v0, v1, v2, v3, .int x0, v5, v6, v7, v8] (.int x0 :: st) μ := g_iload (i := 4) (by decide +kernel) rfl
theorem i147_102 : m_G 147 102 L (.int x0 :: .ref a0 :: st) μ = b_i (m_gb μ a0 x0) 147 103 L st μ := g_bald (by decide +kernel)
theorem i147_103 : m_G 147 103 L (.int x0 :: st) μ = if x0 = 0 then m_G 147 106 L st μ else m_G 147 141 L st μ := g_ifne (off := 38) (by decide +kernel) (by decide)
theorem i147_106 : m_G 147 106 [.ref a0, v1, v2, v3, v4, v5, v6, v7, v8] st μ = m_G 147 107 [.ref a0, v1, v2, v3, v4, v5, v6, v7, v8] (.ref a0 :: st) μ := g_aload_n (i := 0) (by decide +kernel) rfl
theorem i147_107 : m_G 147 107 L (.ref a0 :: st) μ = b_v (m_gf μ a0 9 5) 147 110 L st μ := g_getf (i := 22) (by decide +kernel) (by decide +kernel)
theorem i147_110 : m_G 147 110 L st μ = m_G 147 112 L (.int 24 :: st) μ := g_bipush (n := 24) (by decide +kernel) (by decide)
theorem i147_112 : m_G 147 112 [v0, v1, v2, v3, .int x0, v5, v6, v7, v8] st μ = m_G 147 114 [v0, v1, v2, v3, .int x0, v5, v6, v7, v8] (.int x0 :: st) μ := g_iload (i := 4) (by decide +kernel) rfl
theorem i147_114 : m_G 147 114 L (.int x1 :: .int x0 :: st) μ = m_G 147 115 L (.int (x0 * x1) :: st) μ := g_imul (by decide +kernel)
theorem i147_115 : m_G 147 115 [v0, v1, v2, v3, v4, .int x0, v6, v7, v8] st μ = m_G 147 117 [v0, v1, v2, v3, v4, .int x0, v6, v7, v8] (.int x0 :: st) μ := g_iload (i := 5) (by decide +kernel) rfl
theorem i147_117 : m_G 147 117 L (.int x1 :: .int x0 :: st) μ = m_G 147 118 L (.int (x0 + x1) :: st) μ := g_iadd (by decide +kernel)
theorem i147_118 : m_G 147 118 L (.int x0 :: .ref a0 :: st) μ = b_i (m_ga μ a0 x0) 147 119 L st μ := g_iald (by decide +kernel)
theorem i147_119 : m_G 147 119 L (.int x0 :: st) μ = if x0 = 0 then m_G 147 122 L st μ else m_G 147 141 L st μ := g_ifne (off := 22) (by decide +kernel) (by decide)
theorem i147_122 : m_G 147 122 [.ref a0, v1, v2, v3, v4, v5, v6, v7, v8] st μ = m_G 147 123 [.ref a0, v1, v2, v3, v4, v5, v6, v7, v8] (.ref a0 :: st) μ := g_aload_n (i := 0) (by decide +kernel) rfl
theorem i147_123 : m_G 147 123 L (.ref a0 :: st) μ = b_v (m_gf μ a0 9 26) 147 126 L st μ := g_getf (i := 65) (by decide +kernel) (by decide +kernel)
theorem i147_126 : m_G 147 126 [v0, v1, v2, v3, v4, .int x0, v6, v7, v8] st μ = m_G 147 128 [v0, v1, v2, v3, v4, .int x0, v6, v7, v8] (.int x0 :: st) μ := g_iload (i := 5) (by decide +kernel) rfl
theorem i147_128 : m_G 147 128 L (.int x0 :: .ref a0 :: st) μ = b_i (m_ga μ a0 x0) 147 129 L st μ := g_iald (by decide +kernel)
theorem i147_129 : m_G 147 129 L (.int x0 :: st) μ = if x0 ≤ 0 then m_G 147 141 L st μ else m_G 147 132 L st μ := g_ifle (off := 12) (by decide +kernel) (by decide)
theorem i147_132 : m_G 147 132 [v0, v1, v2, v3, v4, v5, .int x0, v7, v8] st μ = m_G 147 134 [v0, v1, v2, v3, v4, v5, .int x0, v7, v8] (.int x0 :: st) μ := g_iload (i := 6) (by decide +kernel) rfl
theorem i147_134 : m_G 147 134 L (.int x0 :: st) μ = if x0 ≤ 0 then m_G 147 141 L st μ else m_G 147 137 L st μ := g_ifle (off := 7) (by decide +kernel) (by decide)
theorem i147_137 : m_G 147 137 L st μ = m_G 147 138 L (.int 1 :: st) μ := g_iconst (n := 1) (by decide +kernel) (by decide)
theorem i147_138 : m_G 147 138 L st μ = m_G 147 142 L st μ := g_goto (off := 4) (by decide +kernel) (by decide)
theorem i147_141 : m_G 147 141 L st μ = m_G 147 142 L (.int 0 :: st) μ := g_iconst (n := 0) (by decide +kernel) (by decide)
theorem i147_142 : m_G 147 142 [v0, v1, v2, v3, v4, v5, v6, v7, v8] (.int x0 :: st) μ = m_G 147 144 [v0, v1, v2, v3, v4, v5, v6, v7, .int x0] st μ := g_istore (i := 8) (by decide +kernel) (Nat.le_of_ble_eq_true rfl) rfl
theorem i147_144 : m_G 147 144 [v0, v1, v2, v3, v4, v5, v6, v7, .int x0] st μ = m_G 147 146 [v0, v1, v2, v3, v4, v5, v6, v7, .int x0] (.int x0 :: st) μ := g_iload (i := 8) (by decide +kernel) rfl
theorem i147_146 : m_G 147 146 L (.int x0 :: st) μ = if x0 = 0 then m_G 147 172 L st μ else m_G 147 149 L st μ := g_ifeq (off := 26) (by decide +kernel) (by decide)
theorem i147_149 : m_G 147 149 [v0, v1, .int x0, v3, v4, v5, v6, v7, v8] st μ = m_G 147 150 [v0, v1, .int x0, v3, v4, v5, v6, v7, v8] (.int x0 :: st) μ := g_iload_n (i := 2) (by decide +kernel) rfl
theorem i147_150 : m_G 147 150 L st μ = m_G 147 151 L (.int (-1) :: st) μ := g_iconst (n := -1) (by decide +kernel) (by decide)
theorem i147_151 : m_G 147 151 L (.int x1 :: .int x0 :: st) μ = if x0 = x1 then m_G 147 160 L st μ else m_G 147 154 L st μ := g_cmpeq (off := 9) (by decide +kernel) (by decide)
theorem i147_154 : m_G 147 154 [v0, v1, v2, v3, v4, v5, v6, .int x0, v8] st μ = m_G 147 156 [v0, v1, v2, v3, v4, v5, v6, .int x0, v8] (.int x0 :: st) μ := g_iload (i := 7) (by decide +kernel) rfl
theorem i147_156 : m_G 147 156 [v0, v1, v2, .int x0, v4, v5, v6, v7, v8] st μ = m_G 147 157 [v0, v1, v2, .int x0, v4, v5, v6, v7, v8] (.int x0 :: st) μ := g_iload_n (i := 3) (by decide +kernel) rfl
theorem i147_157 : m_G 147 157 L (.int x1 :: .int x0 :: st) μ = if x0 < x1 then m_G 147 160 L st μ else m_G 147 172 L st μ := g_cmpge (off := 15) (by decide +kernel) (by decide)
theorem i147_160 : m_G 147 160 L st μ = m_G 147 162 L (.int 24 :: st) μ := g_bipush (n := 24) (by decide +kernel) (by decide)
theorem i147_162 : m_G 147 162 [v0, v1, v2, v3, .int x0, v5, v6, v7, v8] st μ = m_G 147 164 [v0, v1, v2, v3, .int x0, v5, v6, v7, v8] (.int x0 :: st) μ := g_iload (i := 4) (by decide +kernel) rfl
theorem i147_164 : m_G 147 164 L (.int x1 :: .int x0 :: st) μ = m_G 147 165 L (.int (x0 * x1) :: st) μ := g_imul (by decide +kernel)
theorem i147_165 : m_G 147 165 [v0, v1, v2, v3, v4, .int x0, v6, v7, v8] st μ = m_G 147 167 [v0, v1, v2, v3, v4, .int x0, v6, v7, v8] (.int x0 :: st) μ := g_iload (i := 5) (by decide +kernel) rfl
theorem i147_167 : m_G 147 167 L (.int x1 :: .int x0 :: st) μ = m_G 147 168 L (.int (x0 + x1) :: st) μ := g_iadd (by decide +kernel)
theorem i147_168 : m_G 147 168 [v0, v1, v2, v3, v4, v5, v6, v7, v8] (.int x0 :: st) μ = m_G 147 169 [v0, v1, .int x0, v3, v4, v5, v6, v7, v8] st μ := g_istore_n (i := 2) (by decide +kernel) (Nat.le_of_ble_eq_true rfl) rfl
theorem i147_169 : m_G 147 169 [v0, v1, v2, v3, v4, v5, v6, .int x0, v8] st μ = m_G 147 171 [v0, v1, v2, v3, v4, v5, v6, .int x0, v8] (.int x0 :: st) μ := g_iload (i := 7) (by decide +kernel) rfl
theorem i147_171 : m_G 147 171 [v0, v1, v2, v3, v4, v5, v6, v7, v8] (.int x0 :: st) μ = m_G 147 172 [v0, v1, v2, .int x0, v4, v5, v6, v7, v8] st μ := g_istore_n (i := 3) (by decide +kernel) (Nat.le_of_ble_eq_true rfl) rfl
theorem i147_172 : m_G 147 172 [v0, v1, v2, v3, v4, .int x0, v6, v7, v8] st μ = m_G 147 175 [v0, v1, v2, v3, v4, .int (x0 + 1), v6, v7, v8] st μ := g_iinc (i := 5) (n := 1) (by decide +kernel) rfl (by decide) rfl
theorem i147_175 : m_G 147 175 L st μ = m_G 147 44 L st μ := g_goto (off := -131) (by decide +kernel) (by decide)
theorem i147_178 : m_G 147 178 [v0, v1, v2, v3, .int x0, v5, v6, v7, v8] st μ = m_G 147 181 [v0, v1, v2, v3, .int (x0 + 1), v5, v6, v7, v8] st μ := g_iinc (i := 4) (n := 1) (by decide +kernel) rfl (by decide) rfl
theorem i147_181 : m_G 147 181 L st μ = m_G 147 26 L st μ := g_goto (off := -155) (by decide +kernel) (by decide)
theorem i147_184 : m_G 147 184 [v0, v1, .int x0, v3, v4, v5, v6, v7, v8] st μ = m_G 147 185 [v0, v1, .int x0, v3, v4, v5, v6, v7, v8] (.int x0 :: st) μ := g_iload_n (i := 2) (by decide +kernel) rfl
theorem i147_185 : m_G 147 185 L st μ = m_G 147 186 L (.int (-1) :: st) μ := g_iconst (n := -1) (by decide +kernel) (by decide)
theorem i147_186 : m_G 147 186 L (.int x1 :: .int x0 :: st) μ = if x0 = x1 then m_G 147 189 L st μ else m_G 147 193 L st μ := g_cmpne (off := 7) (by decide +kernel) (by decide)
theorem i147_189 : m_G 147 189 L st μ = m_G 147 190 L (.int (-1) :: st) μ := g_iconst (n := -1) (by decide +kernel) (by decide)
theorem i147_190 : m_G 147 190 L st μ = m_G 147 217 L st μ := g_goto (off := 27) (by decide +kernel) (by decide)
theorem i147_193 : m_G 147 193 [v0, .int x0, v2, v3, v4, v5, v6, v7, v8] st μ = m_G 147 194 [v0, .int x0, v2, v3, v4, v5, v6, v7, v8] (.int x0 :: st) μ := g_iload_n (i := 1) (by decide +kernel) rfl
theorem i147_194 : m_G 147 194 L (.int x0 :: st) μ = if x0 = 0 then m_G 147 197 L st μ else m_G 147 204 L st μ := g_ifne (off := 10) (by decide +kernel) (by decide)
theorem i147_197 : m_G 147 197 [v0, v1, .int x0, v3, v4, v5, v6, v7, v8] st μ = m_G 147 198 [v0, v1, .int x0, v3, v4, v5, v6, v7, v8] (.int x0 :: st) μ := g_iload_n (i := 2) (by decide +kernel) rfl
theorem i147_198 : m_G 147 198 L st μ = m_G 147 200 L (.int 24 :: st) μ := g_bipush (n := 24) (by decide +kernel) (by decide)
theorem i147_200 (hy : ¬ x1 = 0) : m_G 147 200 L (.int x1 :: .int x0 :: st) μ = m_G 147 201 L (.int (x0 / x1) :: st) μ := g_idiv (by decide +kernel) hy
theorem i147_201 : m_G 147 201 L st μ = m_G 147 217 L st μ := g_goto (off := 16) (by decide +kernel) (by decide)
theorem i147_204 : m_G 147 204 [v0, .int x0, v2, v3, v4, v5, v6, v7, v8] st μ = m_G 147 205 [v0, .int x0, v2, v3, v4, v5, v6, v7, v8] (.int x0 :: st) μ := g_iload_n (i := 1) (by decide +kernel) rfl
theorem i147_205 : m_G 147 205 L st μ = m_G 147 206 L (.int 1 :: st) μ := g_iconst (n := 1) (by decide +kernel) (by decide)
theorem i147_206 : m_G 147 206 L (.int x1 :: .int x0 :: st) μ = if x0 = x1 then m_G 147 209 L st μ else m_G 147 216 L st μ := g_cmpne (off := 10) (by decide +kernel) (by decide)
theorem i147_209 : m_G 147 209 [v0, v1, .int x0, v3, v4, v5, v6, v7, v8] st μ = m_G 147 210 [v0, v1, .int x0, v3, v4, v5, v6, v7, v8] (.int x0 :: st) μ := g_iload_n (i := 2) (by decide +kernel) rfl
theorem i147_210 : m_G 147 210 L st μ = m_G 147 212 L (.int 24 :: st) μ := g_bipush (n := 24) (by decide +kernel) (by decide)
theorem i147_212 (hy : ¬ x1 = 0) : m_G 147 212 L (.int x1 :: .int x0 :: st) μ = m_G 147 213 L (.int (x0 - x0 / x1 * x1) :: st) μ := g_irem (by decide +kernel) hy
theorem i147_213 : m_G 147 213 L st μ = m_G 147 217 L st μ := g_goto (off := 4) (by decide +kernel) (by decide)
theorem i147_216 : m_G 147 216 [v0, v1, v2, .int x0, v4, v5, v6, v7, v8] st μ = m_G 147 217 [v0, v1, v2, .int x0, v4, v5, v6, v7, v8] (.int x0 :: st) μ := g_iload_n (i := 3) (by decide +kernel) rfl
theorem i147_217 : m_G 147 217 L [.int x0] μ = some (some (.int x0), μ) := g_ireti (by decide +kernel) (by decide)
theorem D147 : m_D 147 [.ref a0, .int x0] μ = m_G 147 0 [.ref a0, .int x0, m_d, m_d, m_d, m_d, m_d, m_d, m_d] [] μ := d_def (by decide) rfl
theorem i148_0 : m_G 148 0 [v0, .int x0, v2, v3] st μ = m_G 148 1 [v0, .int x0, v2, v3] (.int x0 :: st) μ := g_iload_n (i := 1) (by decide +kernel) rfl
theorem i148_1 : m_G 148 1 L (.int x0 :: st) μ = m_G 148 2 L (.long x0.toInt64 :: st) μ := g_i2l (by decide +kernel)
theorem i148_2 : m_G 148 2 L st μ = m_G 148 3 L (.long 0 :: st) μ := g_lconst (n := 0) (by decide +kernel) (by decide)
theorem i148_3 : m_G 148 3 L st μ = m_G 148 6 L (.long (3) :: st) μ := g_ldc2_w (i := 225) (by decide +kernel) (by decide +kernel)
theorem i148_6 : m_G 148 6 L (.long l2 :: .long l1 :: .long l0 :: []) μ = b_c (m_D 102 [.long l0, .long l1, .long l2] μ) 148 9 L [] := g_stat (i := 102) (n := 3) (by decide +kernel) (by decide +kernel) (by decide) (x_call_ok (ws := [2, 2, 2]) (Nat.le_of_ble_eq_true rfl) rfl (by decide +kernel) rfl (by decide +kernel) rfl rfl)
theorem i148_9 : m_G 148 9 L (.int x0 :: st) μ = if x0 = 0 then m_G 148 46 L st μ else m_G 148 12 L st μ := g_ifeq (off := 37) (by decide +kernel) (by decide)
theorem i148_12 : m_G 148 12 [v0, v1, .int x0, v3] st μ = m_G 148 13 [v0, v1, .int x0, v3] (.int x0 :: st) μ := g_iload_n (i := 2) (by decide +kernel) rfl
theorem i148_13 : m_G 148 13 L (.int x0 :: st) μ = m_G 148 14 L (.long x0.toInt64 :: st) μ := g_i2l (by decide +kernel)
theorem i148_14 : m_G 148 14 L st μ = m_G 148 15 L (.long 0 :: st) μ := g_lconst (n := 0) (by decide +kernel) (by decide)
theorem i148_15 : m_G 148 15 L st μ = m_G 148 18 L (.long (99) :: st) μ := g_ldc2_w (i := 233) (by decide +kernel) (by decide +kernel)
theorem i148_18 : m_G 148 18 L (.long l2 :: .long l1 :: .long l0 :: []) μ = b_c (m_D 102 [.long l0, .long l1, .long l2] μ) 148 21 L [] := g_stat (i := 102) (n := 3) (by decide +kernel) (by decide +kernel) (by decide) (x_call_ok (ws := [2, 2, 2]) (Nat.le_of_ble_eq_true rfl) rfl (by decide +kernel) rfl (by decide +kernel) rfl rfl)
theorem i148_21 : m_G 148 21 L (.int x0 :: st) μ = if x0 = 0 then m_G 148 46 L st μ else m_G 148 24 L st μ := g_ifeq (off := 25) (by decide +kernel) (by decide)
theorem i148_24 : m_G 148 24 [v0, v1, v2, .int x0] st μ = m_G 148 25 [v0, v1, v2, .int x0] (.int x0 :: st) μ := g_iload_n (i := 3) (by decide +kernel) rfl
theorem i148_25 : m_G 148 25 L (.int x0 :: st) μ = m_G 148 26 L (.long x0.toInt64 :: st) μ := g_i2l (by decide +kernel)
theorem i148_26 : m_G 148 26 [v0, .int x0, v2, v3] st μ = m_G 148 27 [v0, .int x0, v2, v3] (.int x0 :: st) μ := g_iload_n (i := 1) (by decide +kernel) rfl
theorem i148_27 : m_G 148 27 L st μ = m_G 148 28 L (.int 2 :: st) μ := g_iconst (n := 2) (by decide +kernel) (by decide)
theorem i148_28 : m_G 148 28 L (.int x1 :: .int x0 :: st) μ = if x0 < x1 then m_G 148 31 L st μ else m_G 148 36 L st μ := g_cmpge (off := 8) (by decide +kernel) (by decide)
theorem i148_31 : m_G 148 31 [v0, v1, .int x0, v3] st μ = m_G 148 32 [v0, v1, .int x0, v3] (.int x0 :: st) μ := g_iload_n (i := 2) (by decide +kernel) rfl
theorem i148_32 : m_G 148 32 L (.int x0 :: st) μ = m_G 148 33 L (.long x0.toInt64 :: st) μ := g_i2l (by decide +kernel)
theorem i148_33 : m_G 148 33 L st μ = m_G 148 37 L st μ := g_goto (off := 4) (by decide +kernel) (by decide)
theorem i148_36 : m_G 148 36 L st μ = m_G 148 37 L (.long 0 :: st) μ := g_lconst (n := 0) (by decide +kernel) (by decide)
theorem i148_37 : m_G 148 37 L st μ = m_G 148 40 L (.long (99) :: st) μ := g_ldc2_w (i := 233) (by decide +kernel) (by decide +kernel)
theorem i148_40 : m_G 148 40 L (.long l2 :: .long l1 :: .long l0 :: []) μ = b_c (m_D 102 [.long l0, .long l1, .long l2] μ) 148 43 L [] := g_stat (i := 102) (n := 3) (by decide +kernel) (by decide +kernel) (by decide) (x_call_ok (ws := [2, 2, 2]) (Nat.le_of_ble_eq_true rfl) rfl (by decide +kernel) rfl (by decide +kernel) rfl rfl)
theorem i148_43 : m_G 148 43 L (.int x0 :: st) μ = if x0 = 0 then m_G 148 46 L st μ else m_G 148 49 L st μ := g_ifne (off := 6) (by decide +kernel) (by decide)
theorem i148_46 : m_G 148 46 L st μ = m_G 148 48 L (.int (-102) :: st) μ := g_bipush (n := -102) (by decide +kernel) (by decide)
theorem i148_48 : m_G 148 48 L [.int x0] μ = some (some (.int x0), μ) := g_ireti (by decide +kernel) (by decide)
theorem i148_49 : m_G 148 49 [.ref a0, v1, v2, v3] st μ = m_G 148 50 [.ref a0, v1, v2, v3] (.ref a0 :: st) μ := g_aload_n (i := 0) (by decide +kernel) rfl
theorem i148_50 : m_G 148 50 L (.ref a0 :: st) μ = b_v (m_gf μ a0 9 27) 148 53 L st μ := g_getf (i := 235) (by decide +kernel) (by decide +kernel)
theorem i148_53 : m_G 148 53 L st μ = m_G 148 55 L (.int 8 :: st) μ := g_bipush (n := 8) (by decide +kernel) (by decide)
theorem i148_55 : m_G 148 55 L (.int x1 :: .int x0 :: st) μ = if x0 = x1 then m_G 148 58 L st μ else m_G 148 61 L st μ := g_cmpne (off := 6) (by decide +kernel) (by decide)
theorem i148_58 : m_G 148 58 L st μ = m_G 148 60 L (.int (-104) :: st) μ := g_bipush (n := -104) (by decide +kernel) (by decide)
theorem i148_60 : m_G 148 60 L [.int x0] μ = some (some (.int x0), μ) := g_ireti (by decide +kernel) (by decide)
theorem i148_61 : m_G 148 61 [.ref a0, v1, v2, v3] st μ = m_G 148 62 [.ref a0, v1, v2, v3] (.ref a0 :: st) μ := g_aload_n (i := 0) (by decide +kernel) rfl
theorem i148_62 : m_G 148 62 L (.ref a0 :: st) μ = b_v (m_gf μ a0 9 28) 148 65 L st μ := g_getf (i := 68) (by decide +kernel) (by decide +kernel)
theorem i148_65 : m_G 148 65 [.ref a0, v1, v2, v3] st μ = m_G 148 66 [.ref a0, v1, v2, v3] (.ref a0 :: st) μ := g_aload_n (i := 0) (by decide +kernel) rfl
theorem i148_66 : m_G 148 66 L (.ref a0 :: st) μ = b_v (m_gf μ a0 9 27) 148 69 L st μ := g_getf (i := 235) (by decide +kernel) (by decide +kernel)
theorem i148_69 : m_G 148 69 [v0, .int x0, v2, v3] st μ = m_G 148 70 [v0, .int x0, v2, v3] (.int x0 :: st) μ := g_iload_n (i := 1) (by decide +kernel) rfl
theorem i148_70 : m_G 148 70 L (.int x1 :: .int x0 :: .ref a0 :: st) μ = b_m (m_pa μ a0 x0 x1) 148 71 L st := g_iast (by decide +kernel)
theorem i148_71 : m_G 148 71 [.ref a0, v1, v2, v3] st μ = m_G 148 72 [.ref a0, v1, v2, v3] (.ref a0 :: st) μ := g_aload_n (i := 0) (by decide +kernel) rfl
theorem i148_72 : m_G 148 72 L (.ref a0 :: st) μ = b_v (m_gf μ a0 9 29) 148 75 L st μ := g_getf (i := 71) (by decide +kernel) (by decide +kernel)
theorem i148_75 : m_G 148 75 [.ref a0, v1, v2, v3] st μ = m_G 148 76 [.ref a0, v1, v2, v3] (.ref a0 :: st) μ := g_aload_n (i := 0) (by decide +kernel) rfl
theorem i148_76 : m_G 148 76 L (.ref a0 :: st) μ = b_v (m_gf μ a0 9 27) 148 79 L st μ := g_getf (i := 235) (by decide +kernel) (by decide +kernel)
theorem i148_79 : m_G 148 79 [v0, v1, .int x0, v3] st μ = m_G 148 80 [v0, v1, .int x0, v3] (.int x0 :: st) μ := g_iload_n (i := 2) (by decide +kernel) rfl
theorem i148_80 : m_G 148 80 L (.int x1 :: .int x0 :: .ref a0 :: st) μ = b_m (m_pa μ a0 x0 x1) 148 81 L st := g_iast (by decide +kernel)
theorem i148_81 : m_G 148 81 [.ref a0, v1, v2, v3] st μ = m_G 148 82 [.ref a0, v1, v2, v3] (.ref a0 :: st) μ := g_aload_n (i := 0) (by decide +kernel) rfl
theorem i148_82 : m_G 148 82 L (.ref a0 :: st) μ = b_v (m_gf μ a0 9 30) 148 85 L st μ := g_getf (i := 74) (by decide +kernel) (by decide +kernel)
theorem i148_85 : m_G 148 85 [.ref a0, v1, v2, v3] st μ = m_G 148 86 [.ref a0, v1, v2, v3] (.ref a0 :: st) μ := g_aload_n (i := 0) (by decide +kernel) rfl
theorem i148_86 : m_G 148 86 L (.ref a0 :: st) μ = b_v (m_gf μ a0 9 27) 148 89 L st μ := g_getf (i := 235) (by decide +kernel) (by decide +kernel)
theorem i148_89 : m_G 148 89 [v0, v1, v2, .int x0] st μ = m_G 148 90 [v0, v1, v2, .int x0] (.int x0 :: st) μ := g_iload_n (i := 3) (by decide +kernel) rfl
theorem i148_90 : m_G 148 90 L (.int x1 :: .int x0 :: .ref a0 :: st) μ = b_m (m_pa μ a0 x0 x1) 148 91 L st := g_iast (by decide +kernel)
theorem i148_91 : m_G 148 91 [.ref a0, v1, v2, v3] st μ = m_G 148 92 [.ref a0, v1, v2, v3] (.ref a0 :: st) μ := g_aload_n (i := 0) (by decide +kernel) rfl
theorem i148_92 : m_G 148 92 L (.ref a0 :: st) μ = m_G 148 93 L (.ref a0 :: .ref a0 :: st) μ := g_dupr (by decide +kernel)
theorem i148_92I : m_G 148 92 L (.int x0 :: st) μ = m_G 148 93 L (.int x0 :: .int x0 :: st) μ := g_dupi (by decide +kernel)
theorem i148_93 : m_G 148 93 L (.ref a0 :: st) μ = b_v (m_gf μ a0 9 27) 148 96 L st μ := g_getf (i := 235) (by decide +kernel) (by decide +kernel)
theorem i148_96 : m_G 148 96 L st μ = m_G 148 97 L (.int 1 :: st) μ := g_iconst (n := 1) (by decide +kernel) (by decide)
theorem i148_97 : m_G 148 97 L (.int x1 :: .int x0 :: st) μ = m_G 148 98 L (.int (x0 + x1) :: st) μ := g_iadd (by decide +kernel)
theorem i148_98 : m_G 148 98 L (w0 :: .ref a0 :: st) μ = b_m (m_pf μ a0 9 27 .int w0) 148 101 L st := g_putf (i := 235) (by decide +kernel) (by decide +kernel) (Or.inl (by decide)) (by decide)
theorem i148_101 : m_G 148 101 [.ref a0, v1, v2, v3] st μ = m_G 148 102 [.ref a0, v1, v2, v3] (.ref a0 :: st) μ := g_aload_n (i := 0) (by decide +kernel) rfl
theorem i148_102 : m_G 148 102 L (.ref a0 :: st) μ = b_v (m_gf μ a0 9 27) 148 105 L st μ := g_getf (i := 235) (by decide +kernel) (by decide +kernel)
theorem i148_105 : m_G 148 105 L st μ = m_G 148 106 L (.int 1 :: st) μ := g_iconst (n := 1) (by decide +kernel) (by decide)
theorem i148_106 : m_G 148 106 L (.int x1 :: .int x0 :: st) μ = m_G 148 107 L (.int (x0 - x1) :: st) μ := g_isub (by decide +kernel)
theorem i148_107 : m_G 148 107 L [.int x0] μ = some (some (.int x0), μ) := g_ireti (by decide +kernel) (by decide)
theorem D148 : m_D 148 [.ref a0, .int x0, .int x1, .int x2] μ = m_G 148 0 [.ref a0, .int x0, .int x1, .int x2] [] μ := d_def (by decide) rfl
theorem i149_0 : m_G 149 0 L st μ = m_G 149 1 L (.int 0 :: st) μ := g_iconst (n := 0) (by decide +kernel) (by decide)
theorem i149_1 : m_G 149 1 [v0, v1, v2, v3] (.int x0 :: st) μ = m_G 149 2 [v0, v1, v2, .int x0] st μ := g_istore_n (i := 3) (by decide +kernel) (Nat.le_of_ble_eq_true rfl) rfl
theorem i149_2 : m_G 149 2 [v0, v1, v2, .int x0] st μ = m_G 149 3 [v0, v1, v2, .int x0] (.int x0 :: st) μ := g_iload_n (i := 3) (by decide +kernel) rfl
theorem i149_3 : m_G 149 3 L st μ = m_G 149 5 L (.int 100 :: st) μ := g_bipush (n := 100) (by decide +kernel) (by decide)
theorem i149_5 : m_G 149 5 L (.int x1 :: .int x0 :: st) μ = if x0 < x1 then m_G 149 8 L st μ else m_G 149 21 L st μ := g_cmpge (off := 16) (by decide +kernel) (by decide)
theorem i149_8 : m_G 149 8 [.ref a0, v1, v2, v3] st μ = m_G 149 9 [.ref a0, v1, v2, v3] (.ref a0 :: st) μ := g_aload_n (i := 0) (by decide +kernel) rfl
theorem i149_9 : m_G 149 9 L (.ref a0 :: st) μ = b_v (m_gf μ a0 9 31) 149 12 L st μ := g_getf (i := 77) (by decide +kernel) (by decide +kernel)
theorem i149_12 : m_G 149 12 [v0, v1, v2, .int x0] st μ = m_G 149 13 [v0, v1, v2, .int x0] (.int x0 :: st) μ := g_iload_n (i := 3) (by decide +kernel) rfl
theorem i149_13 : m_G 149 13 L st μ = m_G 149 14 L (.int 0 :: st) μ := g_iconst (n := 0) (by decide +kernel) (by decide)
theorem i149_14 : m_G 149 14 L (.int x1 :: .int x0 :: .ref a0 :: st) μ = b_m (m_pa μ a0 x0 x1) 149 15 L st := g_iast (by decide +kernel)
theorem i149_15 : m_G 149 15 [v0, v1, v2, .int x0] st μ = m_G 149 18 [v0, v1, v2, .int (x0 + 1)] st μ := g_iinc (i := 3) (n := 1) (by decide +kernel) rfl (by decide) rfl
theorem i149_18 : m_G 149 18 L st μ = m_G 149 2 L st μ := g_goto (off := -16) (by decide +kernel) (by decide)
theorem i149_21 : m_G 149 21 L st μ = m_G 149 22 L (.int 0 :: st) μ := g_iconst (n := 0) (by decide +kernel) (by decide)
theorem i149_22 : m_G 149 22 [v0, v1, v2, v3] (.int x0 :: st) μ = m_G 149 23 [v0, v1, v2, .int x0] st μ := g_istore_n (i := 3) (by decide +kernel) (Nat.le_of_ble_eq_true rfl) rfl
theorem i149_23 : m_G 149 23 [v0, v1, v2, .int x0] st μ = m_G 149 24 [v0, v1, v2, .int x0] (.int x0 :: st) μ := g_iload_n (i := 3) (by decide +kernel) rfl
theorem i149_24 : m_G 149 24 [.ref a0, v1, v2, v3] st μ = m_G 149 25 [.ref a0, v1, v2, v3] (.ref a0 :: st) μ := g_aload_n (i := 0) (by decide +kernel) rfl
theorem i149_25 : m_G 149 25 L (.ref a0 :: st) μ = b_v (m_gf μ a0 9 1) 149 28 L st μ := g_getf (i := 7) (by decide +kernel) (by decide +kernel)
theorem i149_28 : m_G 149 28 [v0, .int x0, v2, v3] st μ = m_G 149 29 [v0, .int x0, v2, v3] (.int x0 :: st) μ := g_iload_n (i := 1) (by decide +kernel) rfl
theorem i149_29 : m_G 149 29 L (.int x0 :: .ref a0 :: st) μ = b_i (m_ga μ a0 x0) 149 30 L st μ := g_iald (by decide +kernel)
theorem i149_30 : m_G 149 30 L (.int x1 :: .int x0 :: st) μ = if x0 < x1 then m_G 149 33 L st μ else m_G 149 82 L st μ := g_cmpge (off := 52) (by decide +kernel) (by decide)
theorem i149_33 : m_G 149 33 [v0, v1, .int x0, v3] st μ = m_G 149 34 [v0, v1, .int x0, v3] (.int x0 :: st) μ := g_iload_n (i := 2) (by decide +kernel) rfl
theorem i149_34 : m_G 149 34 [v0, v1, v2, .int x0] st μ = m_G 149 35 [v0, v1, v2, .int x0] (.int x0 :: st) μ := g_iload_n (i := 3) (by decide +kernel) rfl
theorem i149_35 : m_G 149 35 L (.int x1 :: .int x0 :: []) μ = b_c (m_D 104 [.int x0, .int x1] μ) 149 38 L [] := g_stat (i := 172) (n := 2) (by decide +kernel) (by decide +kernel) (by decide) (x_call_ok (ws := [1, 1]) (Nat.le_of_ble_eq_true rfl) rfl (by decide +kernel) rfl (by decide +kernel) rfl rfl)
theorem i149_38 : m_G 149 38 L (.int x0 :: st) μ = if x0 = 0 then m_G 149 76 L st μ else m_G 149 41 L st μ := g_ifeq (off := 38) (by decide +kernel) (by decide)
theorem i149_41 : m_G 149 41 [.ref a0, v1, v2, v3] st μ = m_G 149 42 [.ref a0, v1, v2, v3] (.ref a0 :: st) μ := g_aload_n (i := 0) (by decide +kernel) rfl
theorem i149_42 : m_G 149 42 L (.ref a0 :: st) μ = b_v (m_gf μ a0 9 3) 149 45 L st μ := g_getf (i := 16) (by decide +kernel) (by decide +kernel)
theorem i149_45 : m_G 149 45 L st μ = m_G 149 47 L (.int 24 :: st) μ := g_bipush (n := 24) (by decide +kernel) (by decide)
theorem i149_47 : m_G 149 47 [v0, .int x0, v2, v3] st μ = m_G 149 48 [v0, .int x0, v2, v3] (.int x0 :: st) μ := g_iload_n (i := 1) (by decide +kernel) rfl
theorem i149_48 : m_G 149 48 L (.int x1 :: .int x0 :: st) μ = m_G 149 49 L (.int (x0 * x1) :: st) μ := g_imul (by decide +kernel)
theorem i149_49 : m_G 149 49 [v0, v1, v2, .int x0] st μ = m_G 149 50 [v0, v1, v2, .int x0] (.int x0 :: st) μ := g_iload_n (i := 3) (by decide +kernel) rfl
theorem i149_50 : m_G 149 50 L (.int x1 :: .int x0 :: st) μ = m_G 149 51 L (.int (x0 + x1) :: st) μ := g_iadd (by decide +kernel)
theorem i149_51 : m_G 149 51 L (.int x0 :: .ref a0 :: st) μ = b_i (m_ga μ a0 x0) 149 52 L st μ := g_iald (by decide +kernel)
theorem i149_52 : m_G 149 52 L st μ = m_G 149 53 L (.int (-1) :: st) μ := g_iconst (n := -1) (by decide +kernel) (by decide)
theorem i149_53 : m_G 149 53 L (.int x1 :: .int x0 :: st) μ = if x0 = x1 then m_G 149 76 L st μ else m_G 149 56 L st μ := g_cmpeq (off := 23) (by decide +kernel) (by decide)
theorem i149_56 : m_G 149 56 [.ref a0, v1, v2, v3] st μ = m_G 149 57 [.ref a0, v1, v2, v3] (.ref a0 :: st) μ := g_aload_n (i := 0) (by decide +kernel) rfl
theorem i149_57 : m_G 149 57 L (.ref a0 :: st) μ = b_v (m_gf μ a0 9 31) 149 60 L st μ := g_getf (i := 77) (by decide +kernel) (by decide +kernel)
theorem i149_60 : m_G 149 60 [.ref a0, v1, v2, v3] st μ = m_G 149 61 [.ref a0, v1, v2, v3] (.ref a0 :: st) μ := g_aload_n (i := 0) (by decide +kernel) rfl
theorem i149_61 : m_G 149 61 L (.ref a0 :: st) μ = b_v (m_gf μ a0 9 3) 149 64 L st μ := g_getf (i := 16) (by decide +kernel) (by decide +kernel)
theorem i149_64 : m_G 149 64 L st μ = m_G 149 66 L (.int 24 :: st) μ := g_bipush (n := 24) (by decide +kernel) (by decide)
theorem i149_66 : m_G 149 66 [v0, .int x0, v2, v3] st μ = m_G 149 67 [v0, .int x0, v2, v3] (.int x0 :: st) μ := g_iload_n (i := 1) (by decide +kernel) rfl
theorem i149_67 : m_G 149 67 L (.int x1 :: .int x0 :: st) μ = m_G 149 68 L (.int (x0 * x1) :: st) μ := g_imul (by decide +kernel)
theorem i149_68 : m_G 149 68 [v0, v1, v2, .int x0] st μ = m_G 149 69 [v0, v1, v2, .int x0] (.int x0 :: st) μ := g_iload_n (i := 3) (by decide +kernel) rfl
theorem i149_69 : m_G 149 69 L (.int x1 :: .int x0 :: st) μ = m_G 149 70 L (.int (x0 + x1) :: st) μ := g_iadd (by decide +kernel)
theorem i149_70 : m_G 149 70 L (.int x0 :: .ref a0 :: st) μ = b_i (m_ga μ a0 x0) 149 71 L st μ := g_iald (by decide +kernel)
theorem i149_71 : m_G 149 71 L (.int x0 :: .ref a0 :: st) μ = m_G 149 72 L (.int x0 :: .ref a0 :: .int x0 :: .ref a0 :: st) μ := g_dup2 (by decide +kernel)
theorem i149_72 : m_G 149 72 L (.int x0 :: .ref a0 :: st) μ = b_i (m_ga μ a0 x0) 149 73 L st μ := g_iald (by decide +kernel)
theorem i149_73 : m_G 149 73 L st μ = m_G 149 74 L (.int 1 :: st) μ := g_iconst (n := 1) (by decide +kernel) (by decide)
theorem i149_74 : m_G 149 74 L (.int x1 :: .int x0 :: st) μ = m_G 149 75 L (.int (x0 + x1) :: st) μ := g_iadd (by decide +kernel)
theorem i149_75 : m_G 149 75 L (.int x1 :: .int x0 :: .ref a0 :: st) μ = b_m (m_pa μ a0 x0 x1) 149 76 L st := g_iast (by decide +kernel)
theorem i149_76 : m_G 149 76 [v0, v1, v2, .int x0] st μ = m_G 149 79 [v0, v1, v2, .int (x0 + 1)] st μ := g_iinc (i := 3) (n := 1) (by decide +kernel) rfl (by decide) rfl
theorem i149_79 : m_G 149 79 L st μ = m_G 149 23 L st μ := g_goto (off := -56) (by decide +kernel) (by decide)
theorem i149_82 : m_G 149 82 L [] μ = some (none, μ) := g_ret (by decide +kernel) (by decide)
theorem D149 : m_D 149 [.ref a0, .int x0, .int x1] μ = m_G 149 0 [.ref a0, .int x0, .int x1, m_d] [] μ := d_def (by decide) rfl
theorem i150_0 : m_G 150 0 L st μ = m_G 150 1 L (.int 0 :: st) μ := g_iconst (n := 0) (by decide +kernel) (by decide)
theorem i150_1 : m_G 150 1 [v0, v1, v2, v3, v4, v5, v6] (.int x0 :: st) μ = m_G 150 3 [v0, v1, v2, v3, .int x0, v5, v6] st μ := g_istore (i := 4) (by decide +kernel) (Nat.le_of_ble_eq_true rfl) rfl
theorem i150_3 : m_G 150 3 [.ref a0, v1, v2, v3, v4, v5, v6] st μ = m_G 150 4 [.ref a0, v1, v2, v3, v4, v5, v6] (.ref a0 :: st) μ := g_aload_n (i := 0) (by decide +kernel) rfl
theorem i150_4 : m_G 150 4 [v0, v1, v2, .int x0, v4, v5, v6] st μ = m_G 150 5 [v0, v1, v2, .int x0, v4, v5, v6] (.int x0 :: st) μ := g_iload_n (i := 3) (by decide +kernel) rfl
theorem i150_5 : m_G 150 5 L st μ = m_G 150 6 L (.int 1 :: st) μ := g_iconst (n := 1) (by decide +kernel) (by decide)
theorem i150_6 : m_G 150 6 L (.int x1 :: .int x0 :: st) μ = m_G 150 7 L (.int (x0 - x1) :: st) μ := g_isub (by decide +kernel)
theorem i150_7 : m_G 150 7 [.ref a0, v1, v2, v3, v4, v5, v6] st μ = m_G 150 8 [.ref a0, v1, v2, v3, v4, v5, v6] (.ref a0 :: st) μ := g_aload_n (i := 0) (by decide +kernel) rfl
theorem i150_8 : m_G 150 8 [v0, v1, .int x0, v3, v4, v5, v6] st μ = m_G 150 9 [v0, v1, .int x0, v3, v4, v5, v6] (.int x0 :: st) μ := g_iload_n (i := 2) (by decide +kernel) rfl
theorem i150_9 : m_G 150 9 [v0, v1, v2, .int x0, v4, v5, v6] st μ = m_G 150 10 [v0, v1, v2, .int x0, v4, v5, v6] (.int x0 :: st) μ := g_iload_n (i := 3) (by decide +kernel) rfl
theorem i150_10 : m_G 150 10 L st μ = m_G 150 11 L (.int 1 :: st) μ := g_iconst (n := 1) (by decide +kernel) (by decide)
theorem i150_11 : m_G 150 11 L (.int x1 :: .int x0 :: st) μ = m_G 150 12 L (.int (x0 - x1) :: st) μ := g_isub (by decide +kernel)
theorem i150_12 (ho : m_oc μ a0 = some 9) : m_G 150 12 L (.int x1 :: .int x0 :: .ref a0 :: [w0, w1]) μ = b_c (m_D 127 [.ref a0, .int x0, .int x1] μ) 150 15 L [w0, w1] := g_virt (i := 187) (n := 2) (a := a0) (c := 9) (l := [(9, 127)]) (by decide +kernel) (by decide +kernel) rfl rfl (x_call_ok (ws := [1, 1, 1]) (Nat.le_of_ble_eq_true rfl) rfl (by decide +kernel) rfl (by decide +kernel) rfl rfl) ho
theorem i150_15 (ho : m_oc μ a0 = some 9) : m_G 150 15 L (.int x1 :: .int x0 :: .ref a0 :: []) μ = b_c (m_D 149 [.ref a0, .int x0, .int x1] μ) 150 18 L [] := g_virt (i := 238) (n := 2) (a := a0) (c := 9) (l := [(9, 149)]) (by decide +kernel) (by decide +kernel) rfl rfl (x_call_ok (ws := [1, 1, 1]) (Nat.le_of_ble_eq_true rfl) rfl (by decide +kernel) rfl (by decide +kernel) rfl rfl) ho
theorem i150_18 : m_G 150 18 L st μ = m_G 150 19 L (.int 0 :: st) μ := g_iconst (n := 0) (by decide +kernel) (by decide)
theorem i150_19 : m_G 150 19 [v0, v1, v2, v3, v4, v5, v6] (.int x0 :: st) μ = m_G 150 21 [v0, v1, v2, v3, v4, .int x0, v6] st μ := g_istore (i := 5) (by decide +kernel) (Nat.le_of_ble_eq_true rfl) rfl
theorem i150_21 : m_G 150 21 [v0, v1, v2, v3, v4, .int x0, v6] st μ = m_G 150 23 [v0, v1, v2, v3, v4, .int x0, v6] (.int x0 :: st) μ := g_iload (i := 5) (by decide +kernel) rfl
theorem i150_23 : m_G 150 23 L st μ = m_G 150 25 L (.int 100 :: st) μ := g_bipush (n := 100) (by decide +kernel) (by decide)
theorem i150_25 : m_G 150 25 L (.int x1 :: .int x0 :: st) μ = if x0 < x1 then m_G 150 28 L st μ else m_G 150 76 L st μ := g_cmpge (off := 51) (by decide +kernel) (by decide)
theorem i150_28 : m_G 150 28 [.ref a0, v1, v2, v3, v4, v5, v6] st μ = m_G 150 29 [.ref a0, v1, v2, v3, v4, v5, v6] (.ref a0 :: st) μ := g_aload_n (i := 0) (by decide +kernel) rfl
theorem i150_29 : m_G 150 29 L (.ref a0 :: st) μ = b_v (m_gf μ a0 9 32) 150 32 L st μ := g_getf (i := 80) (by decide +kernel) (by decide +kernel)
theorem i150_32 : m_G 150 32 [v0, v1, v2, v3, v4, .int x0, v6] st μ = m_G 150 34 [v0, v1, v2, v3, v4, .int x0, v6] (.int x0 :: st) μ := g_iload (i := 5) (by decide +kernel) rfl
theorem i150_34 : m_G 150 34 [.ref a0, v1, v2, v3, v4, v5, v6] st μ = m_G 150 35 [.ref a0, v1, v2, v3, v4, v5, v6] (.ref a0 :: st) μ := g_aload_n (i := 0) (by decide +kernel) rfl
theorem i150_35 : m_G 150 35 L (.ref a0 :: st) μ = b_v (m_gf μ a0 9 31) 150 38 L st μ := g_getf (i := 77) (by decide +kernel) (by decide +kernel)
theorem i150_38 : m_G 150 38 [v0, v1, v2, v3, v4, .int x0, v6] st μ = m_G 150 40 [v0, v1, v2, v3, v4, .int x0, v6] (.int x0 :: st) μ := g_iload (i := 5) (by decide +kernel) rfl
theorem i150_40 : m_G 150 40 L (.int x0 :: .ref a0 :: st) μ = b_i (m_ga μ a0 x0) 150 41 L st μ := g_iald (by decide +kernel)
theorem i150_41 : m_G 150 41 L (.int x0 :: st) μ = if x0 ≤ 0 then m_G 150 48 L st μ else m_G 150 44 L st μ := g_ifle (off := 7) (by decide +kernel) (by decide)
theorem i150_44 : m_G 150 44 L st μ = m_G 150 45 L (.int 1 :: st) μ := g_iconst (n := 1) (by decide +kernel) (by decide)
theorem i150_45 : m_G 150 45 L st μ = m_G 150 49 L st μ := g_goto (off := 4) (by decide +kernel) (by decide)
theorem i150_48 : m_G 150 48 L st μ = m_G 150 49 L (.int 0 :: st) μ := g_iconst (n := 0) (by decide +kernel) (by decide)
theorem i150_49 : m_G 150 49 L (.int x1 :: .int x0 :: .ref a0 :: st) μ = b_m (m_pb μ a0 x0 x1) 150 50 L st := g_bast (by decide +kernel)
theorem i150_50 : m_G 150 50 [v0, v1, v2, v3, .int x0, v5, v6] st μ = m_G 150 52 [v0, v1, v2, v3, .int x0, v5, v6] (.int x0 :: st) μ := g_iload (i := 4) (by decide +kernel) rfl
theorem i150_52 : m_G 150 52 [.ref a0, v1, v2, v3, v4, v5, v6] st μ = m_G 150 53 [.ref a0, v1, v2, v3, v4, v5, v6] (.ref a0 :: st) μ := g_aload_n (i := 0) (by decide +kernel) rfl
theorem i150_53 : m_G 150 53 L (.ref a0 :: st) μ = b_v (m_gf μ a0 9 31) 150 56 L st μ := g_getf (i := 77) (by decide +kernel) (by decide +kernel)
theorem i150_56 : m_G 150 56 [v0, v1, v2, v3, v4, .int x0, v6] st μ = m_G 150 58 [v0, v1, v2, v3, v4, .int x0, v6] (.int x0 :: st) μ := g_iload (i := 5) (by decide +kernel) rfl
theorem i150_58 : m_G 150 58 L (.int x0 :: .ref a0 :: st) μ = b_i (m_ga μ a0 x0) 150 59 L st μ := g_iald (by decide +kernel)
theorem i150_59 : m_G 150 59 L (.int x0 :: st) μ = if x0 ≤ 0 then m_G 150 66 L st μ else m_G 150 62 L st μ := g_ifle (off := 7) (by decide +kernel) (by decide)
theorem i150_62 : m_G 150 62 L st μ = m_G 150 63 L (.int 1 :: st) μ := g_iconst (n := 1) (by decide +kernel) (by decide)
theorem i150_63 : m_G 150 63 L st μ = m_G 150 67 L st μ := g_goto (off := 4) (by decide +kernel) (by decide)
theorem i150_66 : m_G 150 66 L st μ = m_G 150 67 L (.int 0 :: st) μ := g_iconst (n := 0) (by decide +kernel) (by decide)
theorem i150_67 : m_G 150 67 L (.int x1 :: .int x0 :: st) μ = m_G 150 68 L (.int (x0 + x1) :: st) μ := g_iadd (by decide +kernel)
theorem i150_68 : m_G 150 68 [v0, v1, v2, v3, v4, v5, v6] (.int x0 :: st) μ = m_G 150 70 [v0, v1, v2, v3, .int x0, v5, v6] st μ := g_istore (i := 4) (by decide +kernel) (Nat.le_of_ble_eq_true rfl) rfl
theorem i150_70 : m_G 150 70 [v0, v1, v2, v3, v4, .int x0, v6] st μ = m_G 150 73 [v0, v1, v2, v3, v4, .int (x0 + 1), v6] st μ := g_iinc (i := 5) (n := 1) (by decide +kernel) rfl (by decide) rfl
theorem i150_73 : m_G 150 73 L st μ = m_G 150 21 L st μ := g_goto (off := -52) (by decide +kernel) (by decide)
theorem i150_76 : m_G 150 76 L st μ = m_G 150 77 L (.int 0 :: st) μ := g_iconst (n := 0) (by decide +kernel) (by decide)
theorem i150_77 : m_G 150 77 [v0, v1, v2, v3, v4, v5, v6] (.int x0 :: st) μ = m_G 150 79 [v0, v1, v2, v3, v4, .int x0, v6] st μ := g_istore (i := 5) (by decide +kernel) (Nat.le_of_ble_eq_true rfl) rfl
theorem i150_79 : m_G 150 79 [.ref a0, v1, v2, v3, v4, v5, v6] st μ = m_G 150 80 [.ref a0, v1, v2, v3, v4, v5, v6] (.ref a0 :: st) μ := g_aload_n (i := 0) (by decide +kernel) rfl
theorem i150_80 : m_G 150 80 [v0, v1, v2, .int x0, v4, v5, v6] st μ = m_G 150 81 [v0, v1, v2, .int x0, v4, v5, v6] (.int x0 :: st) μ := g_iload_n (i := 3) (by decide +kernel) rfl
theorem i150_81 : m_G 150 81 [.ref a0, v1, v2, v3, v4, v5, v6] st μ = m_G 150 82 [.ref a0, v1, v2, v3, v4, v5, v6] (.ref a0 :: st) μ := g_aload_n (i := 0) (by decide +kernel) rfl
theorem i150_82 : m_G 150 82 [v0, v1, .int x0, v3, v4, v5, v6] st μ = m_G 150 83 [v0, v1, .int x0, v3, v4, v5, v6] (.int x0 :: st) μ := g_iload_n (i := 2) (by decide +kernel) rfl
theorem i150_83 : m_G 150 83 [v0, v1, v2, .int x0, v4, v5, v6] st μ = m_G 150 84 [v0, v1, v2, .int x0, v4, v5, v6] (.int x0 :: st) μ := g_iload_n (i := 3) (by decide +kernel) rfl
theorem i150_84 (ho : m_oc μ a0 = some 9) : m_G 150 84 L (.int x1 :: .int x0 :: .ref a0 :: [w0, w1]) μ = b_c (m_D 127 [.ref a0, .int x0, .int x1] μ) 150 87 L [w0, w1] := g_virt (i := 187) (n := 2) (a := a0) (c := 9) (l := [(9, 127)]) (by decide +kernel) (by decide +kernel) rfl rfl (x_call_ok (ws := [1, 1, 1]) (Nat.le_of_ble_eq_true rfl) rfl (by decide +kernel) rfl (by decide +kernel) rfl rfl) ho
theorem i150_87 (ho : m_oc μ a0 = some 9) : m_G 150 87 L (.int x1 :: .int x0 :: .ref a0 :: []) μ = b_c (m_D 149 [.ref a0, .int x0, .int x1] μ) 150 90 L [] := g_virt (i := 238) (n := 2) (a := a0) (c := 9) (l := [(9, 149)]) (by decide +kernel) (by decide +kernel) rfl rfl (x_call_ok (ws := [1, 1, 1]) (Nat.le_of_ble_eq_true rfl) rfl (by decide +kernel) rfl (by decide +kernel) rfl rfl) ho
theorem i150_90 : m_G 150 90 L st μ = m_G 150 91 L (.int 0 :: st) μ := g_iconst (n := 0) (by decide +kernel) (by decide)
theorem i150_91 : m_G 150 91 [v0, v1, v2, v3, v4, v5, v6] (.int x0 :: st) μ = m_G 150 93 [v0, v1, v2, v3, v4, v5, .int x0] st μ := g_istore (i := 6) (by decide +kernel) (Nat.le_of_ble_eq_true rfl) rfl
theorem i150_93 : m_G 150 93 [v0, v1, v2, v3, v4, v5, .int x0] st μ = m_G 150 95 [v0, v1, v2, v3, v4, v5, .int x0] (.int x0 :: st) μ := g_iload (i := 6) (by decide +kernel) rfl
theorem i150_95 : m_G 150 95 L st μ = m_G 150 97 L (.int 100 :: st) μ := g_bipush (n := 100) (by decide +kernel) (by decide)
theorem i150_97 : m_G 150 97 L (.int x1 :: .int x0 :: st) μ = if x0 < x1 then m_G 150 100 L st μ else m_G 150 136 L st μ := g_cmpge (off := 39) (by decide +kernel) (by decide)
theorem i150_100 : m_G 150 100 [v0, v1, v2, v3, v4, .int x0, v6] st μ = m_G 150 102 [v0, v1, v2, v3, v4, .int x0, v6] (.int x0 :: st) μ := g_iload (i := 5) (by decide +kernel) rfl
theorem i150_102 : m_G 150 102 [.ref a0, v1, v2, v3, v4, v5, v6] st μ = m_G 150 103 [.ref a0, v1, v2, v3, v4, v5, v6] (.ref a0 :: st) μ := g_aload_n (i := 0) (by decide +kernel) rfl
theorem i150_103 : m_G 150 103 L (.ref a0 :: st) μ = b_v (m_gf μ a0 9 32) 150 106 L st μ := g_getf (i := 80) (by decide +kernel) (by decide +kernel)
theorem i150_106 : m_G 150 106 [v0, v1, v2, v3, v4, v5, .int x0] st μ = m_G 150 108 [v0, v1, v2, v3, v4, v5, .int x0] (.int x0 :: st) μ := g_iload (i := 6) (by decide +kernel) rfl
theorem i150_108 : m_G 150 108 L (.int x0 :: .ref a0 :: st) μ = b_i (m_gb μ a0 x0) 150 109 L st μ := g_bald (by decide +kernel)
theorem i150_109 : m_G 150 109 L (.int x0 :: st) μ = if x0 = 0 then m_G 150 126 L st μ else m_G 150 112 L st μ := g_ifeq (off := 17) (by decide +kernel) (by decide)
theorem i150_112 : m_G 150 112 [.ref a0, v1, v2, v3, v4, v5, v6] st μ = m_G 150 113 [.ref a0, v1, v2, v3, v4, v5, v6] (.ref a0 :: st) μ := g_aload_n (i := 0) (by decide +kernel) rfl
theorem i150_113 : m_G 150 113 L (.ref a0 :: st) μ = b_v (m_gf μ a0 9 31) 150 116 L st μ := g_getf (i := 77) (by decide +kernel) (by decide +kernel)
theorem i150_116 : m_G 150 116 [v0, v1, v2, v3, v4, v5, .int x0] st μ = m_G 150 118 [v0, v1, v2, v3, v4, v5, .int x0] (.int x0 :: st) μ := g_iload (i := 6) (by decide +kernel) rfl
theorem i150_118 : m_G 150 118 L (.int x0 :: .ref a0 :: st) μ = b_i (m_ga μ a0 x0) 150 119 L st μ := g_iald (by decide +kernel)
theorem i150_119 : m_G 150 119 L (.int x0 :: st) μ = if x0 ≤ 0 then m_G 150 126 L st μ else m_G 150 122 L st μ := g_ifle (off := 7) (by decide +kernel) (by decide)
theorem i150_122 : m_G 150 122 L st μ = m_G 150 123 L (.int 1 :: st) μ := g_iconst (n := 1) (by decide +kernel) (by decide)
theorem i150_123 : m_G 150 123 L st μ = m_G 150 127 L st μ := g_goto (off := 4) (by decide +kernel) (by decide)
theorem i150_126 : m_G 150 126 L st μ = m_G 150 127 L (.int 0 :: st) μ := g_iconst (n := 0) (by decide +kernel) (by decide)
theorem i150_127 : m_G 150 127 L (.int x1 :: .int x0 :: st) μ = m_G 150 128 L (.int (x0 + x1) :: st) μ := g_iadd (by decide +kernel)
theorem i150_128 : m_G 150 128 [v0, v1, v2, v3, v4, v5, v6] (.int x0 :: st) μ = m_G 150 130 [v0, v1, v2, v3, v4, .int x0, v6] st μ := g_istore (i := 5) (by decide +kernel) (Nat.le_of_ble_eq_true rfl) rfl
theorem i150_130 : m_G 150 130 [v0, v1, v2, v3, v4, v5, .int x0] st μ = m_G 150 133 [v0, v1, v2, v3, v4, v5, .int (x0 + 1)] st μ := g_iinc (i := 6) (n := 1) (by decide +kernel) rfl (by decide) rfl
theorem i150_133 : m_G 150 133 L st μ = m_G 150 93 L st μ := g_goto (off := -40) (by decide +kernel) (by decide)
theorem i150_136 : m_G 150 136 L st μ = m_G 150 138 L (.int 100 :: st) μ := g_bipush (n := 100) (by decide +kernel) (by decide)
theorem i150_138 : m_G 150 138 [v0, v1, v2, v3, v4, .int x0, v6] st μ = m_G 150 140 [v0, v1, v2, v3, v4, .int x0, v6] (.int x0 :: st) μ := g_iload (i := 5) (by decide +kernel) rfl
theorem i150_140 : m_G 150 140 L (.int x1 :: .int x0 :: st) μ = m_G 150 141 L (.int (x0 * x1) :: st) μ := g_imul (by decide +kernel)
theorem i150_141 : m_G 150 141 [v0, .int x0, v2, v3, v4, v5, v6] st μ = m_G 150 142 [v0, .int x0, v2, v3, v4, v5, v6] (.int x0 :: st) μ := g_iload_n (i := 1) (by decide +kernel) rfl
theorem i150_142 : m_G 150 142 [v0, v1, v2, v3, .int x0, v5, v6] st μ = m_G 150 144 [v0, v1, v2, v3, .int x0, v5, v6] (.int x0 :: st) μ := g_iload (i := 4) (by decide +kernel) rfl
theorem i150_144 : m_G 150 144 L (.int x1 :: .int x0 :: st) μ = m_G 150 145 L (.int (x0 * x1) :: st) μ := g_imul (by decide +kernel)
theorem i150_145 : m_G 150 145 L (.int x1 :: .int x0 :: st) μ = if x0 < x1 then m_G 150 152 L st μ else m_G 150 148 L st μ := g_cmplt (off := 7) (by decide +kernel) (by decide)
theorem i150_148 : m_G 150 148 L st μ = m_G 150 149 L (.int 1 :: st) μ := g_iconst (n := 1) (by decide +kernel) (by decide)
theorem i150_149 : m_G 150 149 L st μ = m_G 150 153 L st μ := g_goto (off := 4) (by decide +kernel) (by decide)
theorem i150_152 : m_G 150 152 L st μ = m_G 150 153 L (.int 0 :: st) μ := g_iconst (n := 0) (by decide +kernel) (by decide)
theorem i150_153 (h : x0 &&& 1 = x0) : m_G 150 153 L [.int x0] μ = some (some (.int x0), μ) := g_iretz (by decide +kernel) (by decide) h
theorem D150 : m_D 150 [.ref a0, .int x0, .int x1, .int x2] μ = m_G 150 0 [.ref a0, .int x0, .int x1, .int x2, m_d, m_d, m_d] [] μ := d_def (by decide) rfl
theorem i151_0 : m_G 151 0 [.ref a0, v1, v2, v3, v4, v5, v6] st μ = m_G 151 1 [.ref a0, v1, v2, v3, v4, v5, v6] (.ref a0 :: st) μ := g_aload_n (i := 0) (by decide +kernel) rfl
theorem i151_1 : m_G 151 1 [v0, v1, .int x0, v3, v4, v5, v6] st μ = m_G 151 2 [v0, v1, .int x0, v3, v4, v5, v6] (.int x0 :: st) μ := g_iload_n (i := 2) (by decide +kernel) rfl
theorem i151_2 : m_G 151 2 [v0, v1, v2, .int x0, v4, v5, v6] st μ = m_G 151 3 [v0, v1, v2, .int x0, v4, v5, v6] (.int x0 :: st) μ := g_iload_n (i := 3) (by decide +kernel) rfl
theorem i151_3 (ho : m_oc μ a0 = some 9) : m_G 151 3 L (.int x1 :: .int x0 :: .ref a0 :: []) μ = b_c (m_D 127 [.ref a0, .int x0, .int x1] μ) 151 6 L [] := g_virt (i := 187) (n := 2) (a := a0) (c := 9) (l := [(9, 127)]) (by decide +kernel) (by decide +kernel) rfl rfl (x_call_ok (ws := [1, 1, 1]) (Nat.le_of_ble_eq_true rfl) rfl (by decide +kernel) rfl (by decide +kernel) rfl rfl) ho
theorem i151_6 : m_G 151 6 [v0, v1, v2, v3, v4, v5, v6] (.int x0 :: st) μ = m_G 151 8 [v0, v1, v2, v3, .int x0, v5, v6] st μ := g_istore (i := 4) (by decide +kernel) (Nat.le_of_ble_eq_true rfl) rfl
theorem i151_8 : m_G 151 8 [.ref a0, v1, v2, v3, v4, v5, v6] st μ = m_G 151 9 [.ref a0, v1, v2, v3, v4, v5, v6] (.ref a0 :: st) μ := g_aload_n (i := 0) (by decide +kernel) rfl
theorem i151_9 : m_G 151 9 L (.ref a0 :: st) μ = b_v (m_gf μ a0 9 28) 151 12 L st μ := g_getf (i := 68) (by decide +kernel) (by decide +kernel)
theorem i151_12 : m_G 151 12 [v0, .int x0, v2, v3, v4, v5, v6] st μ = m_G 151 13 [v0, .int x0, v2, v3, v4, v5, v6] (.int x0 :: st) μ := g_iload_n (i := 1) (by decide +kernel) rfl
theorem i151_13 : m_G 151 13 L (.int x0 :: .ref a0 :: st) μ = b_i (m_ga μ a0 x0) 151 14 L st μ := g_iald (by decide +kernel)
theorem i151_14 : m_G 151 14 L (.int x0 :: st) μ = if x0 = 0 then m_G 151 17 L st μ else m_G 151 41 L st μ := g_ifne (off := 27) (by decide +kernel) (by decide)
theorem i151_17 : m_G 151 17 [v0, v1, v2, v3, .int x0, v5, v6] st μ = m_G 151 19 [v0, v1, v2, v3, .int x0, v5, v6] (.int x0 :: st) μ := g_iload (i := 4) (by decide +kernel) rfl
theorem i151_19 : m_G 151 19 L (.int x0 :: []) μ = b_c (m_D 103 [.int x0] μ) 151 22 L [] := g_stat (i := 216) (n := 1) (by decide +kernel) (by decide +kernel) (by decide) (x_call_ok (ws := [1]) (Nat.le_of_ble_eq_true rfl) rfl (by decide +kernel) rfl (by decide +kernel) rfl rfl)
theorem i151_22 : m_G 151 22 L (.int x0 :: st) μ = m_G 151 23 L (.long x0.toInt64 :: st) μ := g_i2l (by decide +kernel)
theorem i151_23 : m_G 151 23 [.ref a0, v1, v2, v3, v4, v5, v6] st μ = m_G 151 24 [.ref a0, v1, v2, v3, v4, v5, v6] (.ref a0 :: st) μ := g_aload_n (i := 0) (by decide +kernel) rfl
theorem i151_24 : m_G 151 24 L (.ref a0 :: st) μ = b_v (m_gf μ a0 9 29) 151 27 L st μ := g_getf (i := 71) (by decide +kernel) (by decide +kernel)
theorem i151_27 : m_G 151 27 [v0, .int x0, v2, v3, v4, v5, v6] st μ = m_G 151 28 [v0, .int x0, v2, v3, v4, v5, v6] (.int x0 :: st) μ := g_iload_n (i := 1) (by decide +kernel) rfl
theorem i151_28 : m_G 151 28 L (.int x0 :: .ref a0 :: st) μ = b_i (m_ga μ a0 x0) 151 29 L st μ := g_iald (by decide +kernel)
theorem i151_29 : m_G 151 29 L (.int x0 :: st) μ = m_G 151 30 L (.long x0.toInt64 :: st) μ := g_i2l (by decide +kernel)
theorem i151_30 : m_G 151 30 [.ref a0, v1, v2, v3, v4, v5, v6] st μ = m_G 151 31 [.ref a0, v1, v2, v3, v4, v5, v6] (.ref a0 :: st) μ := g_aload_n (i := 0) (by decide +kernel) rfl
theorem i151_31 : m_G 151 31 L (.ref a0 :: st) μ = b_v (m_gf μ a0 9 30) 151 34 L st μ := g_getf (i := 74) (by decide +kernel) (by decide +kernel)
theorem i151_34 : m_G 151 34 [v0, .int x0, v2, v3, v4, v5, v6] st μ = m_G 151 35 [v0, .int x0, v2, v3, v4, v5, v6] (.int x0 :: st) μ := g_iload_n (i := 1) (by decide +kernel) rfl
theorem i151_35 : m_G 151 35 L (.int x0 :: .ref a0 :: st) μ = b_i (m_ga μ a0 x0) 151 36 L st μ := g_iald (by decide +kernel)
theorem i151_36 : m_G 151 36 L (.int x0 :: st) μ = m_G 151 37 L (.long x0.toInt64 :: st) μ := g_i2l (by decide +kernel)
theorem i151_37 : m_G 151 37 L (.long l2 :: .long l1 :: .long l0 :: []) μ = b_c (m_D 102 [.long l0, .long l1, .long l2] μ) 151 40 L [] := g_stat (i := 102) (n := 3) (by decide +kernel) (by decide +kernel) (by decide) (x_call_ok (ws := [2, 2, 2]) (Nat.le_of_ble_eq_true rfl) rfl (by decide +kernel) rfl (by decide +kernel) rfl rfl)
theorem i151_40 (h : x0 &&& 1 = x0) : m_G 151 40 L [.int x0] μ = some (some (.int x0), μ) := g_iretz (by decide +kernel) (by decide) h
theorem i151_41 : m_G 151 41 [.ref a0, v1, v2, v3, v4, v5, v6] st μ = m_G 151 42 [.ref a0, v1, v2, v3, v4, v5, v6] (.ref a0 :: st) μ := g_aload_n (i := 0) (by decide +kernel) rfl
theorem i151_42 : m_G 151 42 L (.ref a0 :: st) μ = b_v (m_gf μ a0 9 28) 151 45 L st μ := g_getf (i := 68) (by decide +kernel) (by decide +kernel)
theorem i151_45 : m_G 151 45 [v0, .int x0, v2, v3, v4, v5, v6] st μ = m_G 151 46 [v0, .int x0, v2, v3, v4, v5, v6] (.int x0 :: st) μ := g_iload_n (i := 1) (by decide +kernel) rfl
theorem i151_46 : m_G 151 46 L (.int x0 :: .ref a0 :: st) μ = b_i (m_ga μ a0 x0) 151 47 L st μ := g_iald (by decide +kernel)
theorem i151_47 : m_G 151 47 L st μ = m_G 151 48 L (.int 3 :: st) μ := g_iconst (n := 3) (by decide +kernel) (by decide)
theorem i151_48 : m_G 151 48 L (.int x1 :: .int x0 :: st) μ = if x0 = x1 then m_G 151 51 L st μ else m_G 151 76 L st μ := g_cmpne (off := 28) (by decide +kernel) (by decide)
theorem i151_51 : m_G 151 51 [v0, v1, v2, .int x0, v4, v5, v6] st μ = m_G 151 52 [v0, v1, v2, .int x0, v4, v5, v6] (.int x0 :: st) μ := g_iload_n (i := 3) (by decide +kernel) rfl
theorem i151_52 : m_G 151 52 L (.int x0 :: st) μ = if x0 = 0 then m_G 151 70 L st μ else m_G 151 55 L st μ := g_ifeq (off := 18) (by decide +kernel) (by decide)
theorem i151_55 : m_G 151 55 [.ref a0, v1, v2, v3, v4, v5, v6] st μ = m_G 151 56 [.ref a0, v1, v2, v3, v4, v5, v6] (.ref a0 :: st) μ := g_aload_n (i := 0) (by decide +kernel) rfl
theorem i151_56 : m_G 151 56 [.ref a0, v1, v2, v3, v4, v5, v6] st μ = m_G 151 57 [.ref a0, v1, v2, v3, v4, v5, v6] (.ref a0 :: st) μ := g_aload_n (i := 0) (by decide +kernel) rfl
theorem i151_57 : m_G 151 57 L (.ref a0 :: st) μ = b_v (m_gf μ a0 9 29) 151 60 L st μ := g_getf (i := 71) (by decide +kernel) (by decide +kernel)
theorem i151_60 : m_G 151 60 [v0, .int x0, v2, v3, v4, v5, v6] st μ = m_G 151 61 [v0, .int x0, v2, v3, v4, v5, v6] (.int x0 :: st) μ := g_iload_n (i := 1) (by decide +kernel) rfl
theorem i151_61 : m_G 151 61 L (.int x0 :: .ref a0 :: st) μ = b_i (m_ga μ a0 x0) 151 62 L st μ := g_iald (by decide +kernel)
theorem i151_62 : m_G 151 62 [v0, v1, .int x0, v3, v4, v5, v6] st μ = m_G 151 63 [v0, v1, .int x0, v3, v4, v5, v6] (.int x0 :: st) μ := g_iload_n (i := 2) (by decide +kernel) rfl
theorem i151_63 : m_G 151 63 [v0, v1, v2, .int x0, v4, v5, v6] st μ = m_G 151 64 [v0, v1, v2, .int x0, v4, v5, v6] (.int x0 :: st) μ := g_iload_n (i := 3) (by decide +kernel) rfl
theorem i151_64 (ho : m_oc μ a0 = some 9) : m_G 151 64 L (.int x2 :: .int x1 :: .int x0 :: .ref a0 :: []) μ = b_c (m_D 150 [.ref a0, .int x0, .int x1, .int x2] μ) 151 67 L [] := g_virt (i := 242) (n := 3) (a := a0) (c := 9) (l := [(9, 150)]) (by decide +kernel) (by decide +kernel) rfl rfl (x_call_ok (ws := [1, 1, 1, 1]) (Nat.le_of_ble_eq_true rfl) rfl (by decide +kernel) rfl (by decide +kernel) rfl rfl) ho
theorem i151_67 : m_G 151 67 L (.int x0 :: st) μ = if x0 = 0 then m_G 151 74 L st μ else m_G 151 70 L st μ := g_ifeq (off := 7) (by decide +kernel) (by decide)
theorem i151_70 : m_G 151 70 L st μ = m_G 151 71 L (.int 1 :: st) μ := g_iconst (n := 1) (by decide +kernel) (by decide)
theorem i151_71 : m_G 151 71 L st μ = m_G 151 75 L st μ := g_goto (off := 4) (by decide +kernel) (by decide)
theorem i151_74 : m_G 151 74 L st μ = m_G 151 75 L (.int 0 :: st) μ := g_iconst (n := 0) (by decide +kernel) (by decide)
theorem i151_75 (h : x0 &&& 1 = x0) : m_G 151 75 L [.int x0] μ = some (some (.int x0), μ) := g_iretz (by decide +kernel) (by decide) h
theorem i151_76 : m_G 151 76 [.ref a0, v1, v2, v3, v4, v5, v6] st μ = m_G 151 77 [.ref a0, v1, v2, v3, v4, v5, v6] (.ref a0 :: st) μ := g_aload_n (i := 0) (by decide +kernel) rfl
theorem i151_77 : m_G 151 77 [v0, v1, v2, .int x0, v4, v5, v6] st μ = m_G 151 78 [v0, v1, v2, .int x0, v4, v5, v6] (.int x0 :: st) μ := g_iload_n (i := 3) (by decide +kernel) rfl
theorem i151_78 : m_G 151 78 [v0, v1, v2, v3, .int x0, v5, v6] st μ = m_G 151 80 [v0, v1, v2, v3, .int x0, v5, v6] (.int x0 :: st) μ := g_iload (i := 4) (by decide +kernel) rfl
theorem i151_80 (ho : m_oc μ a0 = some 9) : m_G 151 80 L (.int x1 :: .int x0 :: .ref a0 :: []) μ = b_c (m_D 149 [.ref a0, .int x0, .int x1] μ) 151 83 L [] := g_virt (i := 238) (n := 2) (a := a0) (c := 9) (l := [(9, 149)]) (by decide +kernel) (by decide +kernel) rfl rfl (x_call_ok (ws := [1, 1, 1]) (Nat.le_of_ble_eq_true rfl) rfl (by decide +kernel) rfl (by decide +kernel) rfl rfl) ho
theorem i151_83 : m_G 151 83 L st μ = m_G 151 84 L (.int 1 :: st) μ := g_iconst (n := 1) (by decide +kernel) (by decide)
theorem i151_84 : m_G 151 84 [v0, v1, v2, v3, v4, v5, v6] (.int x0 :: st) μ = m_G 151 86 [v0, v1, v2, v3, v4, .int x0, v6] st μ := g_istore (i := 5) (by decide +kernel) (Nat.le_of_ble_eq_true rfl) rfl
theorem i151_86 : m_G 151 86 L st μ = m_G 151 87 L (.int 0 :: st) μ := g_iconst (n := 0) (by decide +kernel) (by decide)
theorem i151_87 : m_G 151 87 [v0, v1, v2, v3, v4, v5, v6] (.int x0 :: st) μ = m_G 151 89 [v0, v1, v2, v3, v4, v5, .int x0] st μ := g_istore (i := 6) (by decide +kernel) (Nat.le_of_ble_eq_true rfl) rfl
theorem i151_89 : m_G 151 89 [v0, v1, v2, v3, v4, v5, .int x0] st μ = m_G 151 91 [v0, v1, v2, v3, v4, v5, .int x0] (.int x0 :: st) μ := g_iload (i := 6) (by decide +kernel) rfl
theorem i151_91 : m_G 151 91 L st μ = m_G 151 93 L (.int 100 :: st) μ := g_bipush (n := 100) (by decide +kernel) (by decide)
theorem i151_93 : m_G 151 93 L (.int x1 :: .int x0 :: st) μ = if x0 < x1 then m_G 151 96 L st μ else m_G 151 171 L st μ := g_cmpge (off := 78) (by decide +kernel) (by decide)
theorem i151_96 : m_G 151 96 [v0, v1, v2, v3, v4, .int x0, v6] st μ = m_G 151 98 [v0, v1, v2, v3, v4, .int x0, v6] (.int x0 :: st) μ := g_iload (i := 5) (by decide +kernel) rfl
theorem i151_98 : m_G 151 98 L (.int x0 :: st) μ = if x0 = 0 then m_G 151 162 L st μ else m_G 151 101 L st μ := g_ifeq (off := 64) (by decide +kernel) (by decide)
theorem i151_101 : m_G 151 101 [.ref a0, v1, v2, v3, v4, v5, v6] st μ = m_G 151 102 [.ref a0, v1, v2, v3, v4, v5, v6] (.ref a0 :: st) μ := g_aload_n (i := 0) (by decide +kernel) rfl
theorem i151_102 : m_G 151 102 L (.ref a0 :: st) μ = b_v (m_gf μ a0 9 28) 151 105 L st μ := g_getf (i := 68) (by decide +kernel) (by decide +kernel)
theorem i151_105 : m_G 151 105 [v0, .int x0, v2, v3, v4, v5, v6] st μ = m_G 151 106 [v0, .int x0, v2, v3, v4, v5, v6] (.int x0 :: st) μ := g_iload_n (i := 1) (by decide +kernel) rfl
theorem i151_106 : m_G 151 106 L (.int x0 :: .ref a0 :: st) μ = b_i (m_ga μ a0 x0) 151 107 L st μ := g_iald (by decide +kernel)
theorem i151_107 : m_G 151 107 L st μ = m_G 151 108 L (.int 1 :: st) μ := g_iconst (n := 1) (by decide +kernel) (by decide)
theorem i151_108 : m_G 151 108 L (.int x1 :: .int x0 :: st) μ = if x0 = x1 then m_G 151 111 L st μ else m_G 151 147 L st μ := g_cmpne (off := 39) (by decide +kernel) (by decide)
theorem i151_111 : m_G 151 111 [.ref a0, v1, v2, v3, v4, v5, v6] st μ = m_G 151 112 [.ref a0, v1, v2, v3, v4, v5, v6] (.ref a0 :: st) μ := g_aload_n (i := 0) (by decide +kernel) rfl
theorem i151_112 : m_G 151 112 L (.ref a0 :: st) μ = b_v (m_gf μ a0 9 31) 151 115 L st μ := g_getf (i := 77) (by decide +kernel) (by decide +kernel)
theorem i151_115 : m_G 151 115 [v0, v1, v2, v3, v4, v5, .int x0] st μ = m_G 151 117 [v0, v1, v2, v3, v4, v5, .int x0] (.int x0 :: st) μ := g_iload (i := 6) (by decide +kernel) rfl
theorem i151_117 : m_G 151 117 L (.int x0 :: .ref a0 :: st) μ = b_i (m_ga μ a0 x0) 151 118 L st μ := g_iald (by decide +kernel)
theorem i151_118 : m_G 151 118 L (.int x0 :: st) μ = if x0 = 0 then m_G 151 158 L st μ else m_G 151 121 L st μ := g_ifeq (off := 40) (by decide +kernel) (by decide)
theorem i151_121 : m_G 151 121 [v0, v1, v2, v3, v4, v5, .int x0] st μ = m_G 151 123 [v0, v1, v2, v3, v4, v5, .int x0] (.int x0 :: st) μ := g_iload (i := 6) (by decide +kernel) rfl
theorem i151_123 : m_G 151 123 L (.int x0 :: st) μ = m_G 151 124 L (.long x0.toInt64 :: st) μ := g_i2l (by decide +kernel)
theorem i151_124 : m_G 151 124 [.ref a0, v1, v2, v3, v4, v5, v6] st μ = m_G 151 125 [.ref a0, v1, v2, v3, v4, v5, v6] (.ref a0 :: st) μ := g_aload_n (i := 0) (by decide +kernel) rfl
theorem i151_125 : m_G 151 125 L (.ref a0 :: st) μ = b_v (m_gf μ a0 9 29) 151 128 L st μ := g_getf (i := 71) (by decide +kernel) (by decide +kernel)
theorem i151_128 : m_G 151 128 [v0, .int x0, v2, v3, v4, v5, v6] st μ = m_G 151 129 [v0, .int x0, v2, v3, v4, v5, v6] (.int x0 :: st) μ := g_iload_n (i := 1) (by decide +kernel) rfl
theorem i151_129 : m_G 151 129 L (.int x0 :: .ref a0 :: st) μ = b_i (m_ga μ a0 x0) 151 130 L st μ := g_iald (by decide +kernel)
theorem i151_130 : m_G 151 130 L (.int x0 :: st) μ = m_G 151 131 L (.long x0.toInt64 :: st) μ := g_i2l (by decide +kernel)
theorem i151_131 : m_G 151 131 [.ref a0, v1, v2, v3, v4, v5, v6] st μ = m_G 151 132 [.ref a0, v1, v2, v3, v4, v5, v6] (.ref a0 :: st) μ := g_aload_n (i := 0) (by decide +kernel) rfl
theorem i151_132 : m_G 151 132 L (.ref a0 :: st) μ = b_v (m_gf μ a0 9 30) 151 135 L st μ := g_getf (i := 74) (by decide +kernel) (by decide +kernel)
theorem i151_135 : m_G 151 135 [v0, .int x0, v2, v3, v4, v5, v6] st μ = m_G 151 136 [v0, .int x0, v2, v3, v4, v5, v6] (.int x0 :: st) μ := g_iload_n (i := 1) (by decide +kernel) rfl
theorem i151_136 : m_G 151 136 L (.int x0 :: .ref a0 :: st) μ = b_i (m_ga μ a0 x0) 151 137 L st μ := g_iald (by decide +kernel)
theorem i151_137 : m_G 151 137 L (.int x0 :: st) μ = m_G 151 138 L (.long x0.toInt64 :: st) μ := g_i2l (by decide +kernel)
theorem i151_138 : m_G 151 138 L (.long l2 :: .long l1 :: .long l0 :: []) μ = b_c (m_D 102 [.long l0, .long l1, .long l2] μ) 151 141 L [] := g_stat (i := 102) (n := 3) (by decide +kernel) (by decide +kernel) (by decide) (x_call_ok (ws := [2, 2, 2]) (Nat.le_of_ble_eq_true rfl) rfl (by decide +kernel) rfl (by decide +kernel) rfl rfl)
theorem i151_141 : m_G 151 141 L (.int x0 :: st) μ = if x0 = 0 then m_G 151 162 L st μ else m_G 151 144 L st μ := g_ifeq (off := 21) (by decide +kernel) (by decide)
theorem i151_144 : m_G 151 144 L st μ = m_G 151 158 L st μ := g_goto (off := 14) (by decide +kernel) (by decide)
theorem i151_147 : m_G 151 147 [.ref a0, v1, v2, v3, v4, v5, v6] st μ = m_G 151 148 [.ref a0, v1, v2, v3, v4, v5, v6] (.ref a0 :: st) μ := g_aload_n (i := 0) (by decide +kernel) rfl
theorem i151_148 : m_G 151 148 L (.ref a0 :: st) μ = b_v (m_gf μ a0 9 31) 151 151 L st μ := g_getf (i := 77) (by decide +kernel) (by decide +kernel)
theorem i151_151 : m_G 151 151 [v0, v1, v2, v3, v4, v5, .int x0] st μ = m_G 151 153 [v0, v1, v2, v3, v4, v5, .int x0] (.int x0 :: st) μ := g_iload (i := 6) (by decide +kernel) rfl
theorem i151_153 : m_G 151 153 L (.int x0 :: .ref a0 :: st) μ = b_i (m_ga μ a0 x0) 151 154 L st μ := g_iald (by decide +kernel)
theorem i151_154 : m_G 151 154 L st μ = m_G 151 155 L (.int 2 :: st) μ := g_iconst (n := 2) (by decide +kernel) (by decide)
theorem i151_155 : m_G 151 155 L (.int x1 :: .int x0 :: st) μ = if x0 < x1 then m_G 151 158 L st μ else m_G 151 162 L st μ := g_cmpge (off := 7) (by decide +kernel) (by decide)
theorem i151_158 : m_G 151 158 L st μ = m_G 151 159 L (.int 1 :: st) μ := g_iconst (n := 1) (by decide +kernel) (by decide)
theorem i151_159 : m_G 151 159 L st μ = m_G 151 163 L st μ := g_goto (off := 4) (by decide +kernel) (by decide)
theorem i151_162 : m_G 151 162 L st μ = m_G 151 163 L (.int 0 :: st) μ := g_iconst (n := 0) (by decide +kernel) (by decide)
theorem i151_163 : m_G 151 163 [v0, v1, v2, v3, v4, v5, v6] (.int x0 :: st) μ = m_G 151 165 [v0, v1, v2, v3, v4, .int x0, v6] st μ := g_istore (i := 5) (by decide +kernel) (Nat.le_of_ble_eq_true rfl) rfl
theorem i151_165 : m_G 151 165 [v0, v1, v2, v3, v4, v5, .int x0] st μ = m_G 151 168 [v0, v1, v2, v3, v4, v5, .int (x0 + 1)] st μ := g_iinc (i := 6) (n := 1) (by decide +kernel) rfl (by decide) rfl
theorem i151_168 : m_G 151 168 L st μ = m_G 151 89 L st μ := g_goto (off := -79) (by decide +kernel) (by decide)
theorem i151_171 : m_G 151 171 [v0, v1, v2, v3, v4, .int x0, v6] st μ = m_G 151 173 [v0, v1, v2, v3, v4, .int x0, v6] (.int x0 :: st) μ := g_iload (i := 5) (by decide +kernel) rfl
theorem i151_173 (h : x0 &&& 1 = x0) : m_G 151 173 L [.int x0] μ = some (some (.int x0), μ) := g_iretz (by decide +kernel) (by decide) h
theorem D151 : m_D 151 [.ref a0, .int x0, .int x1, .int x2] μ = m_G 151 0 [.ref a0, .int x0, .int x1, .int x2, m_d, m_d, m_d] [] μ := d_def (by decide) rfl
theorem i152_0 : m_G 152 0 [v0, .int x0, v2, v3] st μ = m_G 152 1 [v0, .int x0, v2, v3] (.int x0 :: st) μ := g_iload_n (i := 1) (by decide +kernel) rfl
theorem i152_1 : m_G 152 1 L (.int x0 :: st) μ = m_G 152 2 L (.long x0.toInt64 :: st) μ := g_i2l (by decide +kernel)
theorem i152_2 : m_G 152 2 L st μ = m_G 152 3 L (.long 0 :: st) μ := g_lconst (n := 0) (by decide +kernel) (by decide)
theorem i152_3 : m_G 152 3 [.ref a0, v1, v2, v3] st μ = m_G 152 4 [.ref a0, v1, v2, v3] (.ref a0 :: st) μ := g_aload_n (i := 0) (by decide +kernel) rfl
theorem i152_4 : m_G 152 4 L (.ref a0 :: st) μ = b_v (m_gf μ a0 9 27) 152 7 L st μ := g_getf (i := 235) (by decide +kernel) (by decide +kernel)
theorem i152_7 : m_G 152 7 L st μ = m_G 152 8 L (.int 1 :: st) μ := g_iconst (n := 1) (by decide +kernel) (by decide)
theorem i152_8 : m_G 152 8 L (.int x1 :: .int x0 :: st) μ = m_G 152 9 L (.int (x0 - x1) :: st) μ := g_isub (by decide +kernel)
theorem i152_9 : m_G 152 9 L (.int x0 :: st) μ = m_G 152 10 L (.long x0.toInt64 :: st) μ := g_i2l (by decide +kernel)
theorem i152_10 : m_G 152 10 L (.long l2 :: .long l1 :: .long l0 :: []) μ = b_c (m_D 102 [.long l0, .long l1, .long l2] μ) 152 13 L [] := g_stat (i := 102) (n := 3) (by decide +kernel) (by decide +kernel) (by decide) (x_call_ok (ws := [2, 2, 2]) (Nat.le_of_ble_eq_true rfl) rfl (by decide +kernel) rfl (by decide +kernel) rfl rfl)
theorem i152_13 : m_G 152 13 L (.int x0 :: st) μ = if x0 = 0 then m_G 152 32 L st μ else m_G 152 16 L st μ := g_ifeq (off := 19) (by decide +kernel) (by decide)
theorem i152_16 : m_G 152 16 [.ref a0, v1, v2, v3] st μ = m_G 152 17 [.ref a0, v1, v2, v3] (.ref a0 :: st) μ := g_aload_n (i := 0) (by decide +kernel) rfl
theorem i152_17 : m_G 152 17 [v0, v1, .int x0, v3] st μ = m_G 152 18 [v0, v1, .int x0, v3] (.int x0 :: st) μ := g_iload_n (i := 2) (by decide +kernel) rfl
theorem i152_18 (ho : m_oc μ a0 = some 9) : m_G 152 18 L (.int x0 :: .ref a0 :: []) μ = b_c (m_D 117 [.ref a0, .int x0] μ) 152 21 L [] := g_virt (i := 154) (n := 1) (a := a0) (c := 9) (l := [(9, 117)]) (by decide +kernel) (by decide +kernel) rfl rfl (x_call_ok (ws := [1, 1]) (Nat.le_of_ble_eq_true rfl) rfl (by decide +kernel) rfl (by decide +kernel) rfl rfl) ho
theorem i152_21 : m_G 152 21 L (.int x0 :: st) μ = if x0 = 0 then m_G 152 32 L st μ else m_G 152 24 L st μ := g_ifeq (off := 11) (by decide +kernel) (by decide)
theorem i152_24 : m_G 152 24 [.ref a0, v1, v2, v3] st μ = m_G 152 25 [.ref a0, v1, v2, v3] (.ref a0 :: st) μ := g_aload_n (i := 0) (by decide +kernel) rfl
theorem i152_25 : m_G 152 25 [v0, v1, v2, .int x0] st μ = m_G 152 26 [v0, v1, v2, .int x0] (.int x0 :: st) μ := g_iload_n (i := 3) (by decide +kernel) rfl
theorem i152_26 (ho : m_oc μ a0 = some 9) : m_G 152 26 L (.int x0 :: .ref a0 :: []) μ = b_c (m_D 105 [.ref a0, .int x0] μ) 152 29 L [] := g_virt (i := 106) (n := 1) (a := a0) (c := 9) (l := [(9, 105)]) (by decide +kernel) (by decide +kernel) rfl rfl (x_call_ok (ws := [1, 1]) (Nat.le_of_ble_eq_true rfl) rfl (by decide +kernel) rfl (by decide +kernel) rfl rfl) ho
theorem i152_29 : m_G 152 29 L (.int x0 :: st) μ = if x0 = 0 then m_G 152 32 L st μ else m_G 152 35 L st μ := g_ifne (off := 6) (by decide +kernel) (by decide)
theorem i152_32 : m_G 152 32 L st μ = m_G 152 34 L (.int (-101) :: st) μ := g_bipush (n := -101) (by decide +kernel) (by decide)
theorem i152_34 : m_G 152 34 L [.int x0] μ = some (some (.int x0), μ) := g_ireti (by decide +kernel) (by decide)
theorem i152_35 : m_G 152 35 [.ref a0, v1, v2, v3] st μ = m_G 152 36 [.ref a0, v1, v2, v3] (.ref a0 :: st) μ := g_aload_n (i := 0) (by decide +kernel) rfl
theorem i152_36 : m_G 152 36 [v0, .int x0, v2, v3] st μ = m_G 152 37 [v0, .int x0, v2, v3] (.int x0 :: st) μ := g_iload_n (i := 1) (by decide +kernel) rfl
theorem i152_37 : m_G 152 37 [v0, v1, .int x0, v3] st μ = m_G 152 38 [v0, v1, .int x0, v3] (.int x0 :: st) μ := g_iload_n (i := 2) (by decide +kernel) rfl
theorem i152_38 : m_G 152 38 [v0, v1, v2, .int x0] st μ = m_G 152 39 [v0, v1, v2, .int x0] (.int x0 :: st) μ := g_iload_n (i := 3) (by decide +kernel) rfl
theorem i152_39 (ho : m_oc μ a0 = some 9) : m_G 152 39 L (.int x2 :: .int x1 :: .int x0 :: .ref a0 :: []) μ = b_c (m_D 151 [.ref a0, .int x0, .int x1, .int x2] μ) 152 42 L [] := g_virt (i := 246) (n := 3) (a := a0) (c := 9) (l := [(9, 151)]) (by decide +kernel) (by decide +kernel) rfl rfl (x_call_ok (ws := [1, 1, 1, 1]) (Nat.le_of_ble_eq_true rfl) rfl (by decide +kernel) rfl (by decide +kernel) rfl rfl) ho
theorem i152_42 : m_G 152 42 L (.int x0 :: st) μ = if x0 = 0 then m_G 152 49 L st μ else m_G 152 45 L st μ := g_ifeq (off := 7) (by decide +kernel) (by decide)
theorem i152_45 : m_G 152 45 L st μ = m_G 152 46 L (.int 1 :: st) μ := g_iconst (n := 1) (by decide +kernel) (by decide)
theorem i152_46 : m_G 152 46 L st μ = m_G 152 50 L st μ := g_goto (off := 4) (by decide +kernel) (by decide)
theorem i152_49 : m_G 152 49 L st μ = m_G 152 50 L (.int 0 :: st) μ := g_iconst (n := 0) (by decide +kernel) (by decide)
theorem i152_50 : m_G 152 50 L [.int x0] μ = some (some (.int x0), μ) := g_ireti (by decide +kernel) (by decide)
theorem D152 : m_D 152 [.ref a0, .int x0, .int x1, .int x2] μ = m_G 152 0 [.ref a0, .int x0, .int x1, .int x2] [] μ := d_def (by decide) rfl
theorem i153_0 : m_G 153 0 [.ref a0, v1, v2, v3, v4] st μ = m_G 153 1 [.ref a0, v1, v2, v3, v4] (.ref a0 :: st) μ := g_aload_n (i := 0) (by decide +kernel) rfl
theorem i153_1 : m_G 153 1 [v0, .int x0, v2, v3, v4] st μ = m_G 153 2 [v0, .int x0, v2, v3, v4] (.int x0 :: st) μ := g_iload_n (i := 1) (by decide +kernel) rfl
theorem i153_2 : m_G 153 2 [v0, v1, .int x0, v3, v4] st μ = m_G 153 3 [v0, v1, .int x0, v3, v4] (.int x0 :: st) μ := g_iload_n (i := 2) (by decide +kernel) rfl
theorem i153_3 (ho : m_oc μ a0 = some 9) : m_G 153 3 L (.int x1 :: .int x0 :: .ref a0 :: []) μ = b_c (m_D 127 [.ref a0, .int x0, .int x1] μ) 153 6 L [] := g_virt (i := 187) (n := 2) (a := a0) (c := 9) (l := [(9, 127)]) (by decide +kernel) (by decide +kernel) rfl rfl (x_call_ok (ws := [1, 1, 1]) (Nat.le_of_ble_eq_true rfl) rfl (by decide +kernel) rfl (by decide +kernel) rfl rfl) ho
theorem i153_6 : m_G 153 6 L (.int x0 :: st) μ = if x0 = 0 then m_G 153 9 L st μ else m_G 153 11 L st μ := g_ifne (off := 5) (by decide +kernel) (by decide)
theorem i153_9 : m_G 153 9 L st μ = m_G 153 10 L (.int 1 :: st) μ := g_iconst (n := 1) (by decide +kernel) (by decide)
theorem i153_10 : m_G 153 10 L [.int x0] μ = some (some (.int x0), μ) := g_ireti (by decide +kernel) (by decide)
theorem i153_11 : m_G 153 11 L st μ = m_G 153 12 L (.int 0 :: st) μ := g_iconst (n := 0) (by decide +kernel) (by decide)
theorem i153_12 : m_G 153 12 [v0, v1, v2, v3, v4] (.int x0 :: st) μ = m_G 153 13 [v0, v1, v2, .int x0, v4] st μ := g_istore_n (i := 3) (by decide +kernel) (Nat.le_of_ble_eq_true rfl) rfl
theorem i153_13 : m_G 153 13 L st μ = m_G 153 14 L (.int 0 :: st) μ := g_iconst (n := 0) (by decide +kernel) (by decide)
theorem i153_14 : m_G 153 14 [v0, v1, v2, v3, v4] (.int x0 :: st) μ = m_G 153 16 [v0, v1, v2, v3, .int x0] st μ := g_istore (i := 4) (by decide +kernel) (Nat.le_of_ble_eq_true rfl) rfl
theorem i153_16 : m_G 153 16 [v0, v1, v2, v3, .int x0] st μ = m_G 153 18 [v0, v1, v2, v3, .int x0] (.int x0 :: st) μ := g_iload (i := 4) (by decide +kernel) rfl
theorem i153_18 : m_G 153 18 [.ref a0, v1, v2, v3, v4] st μ = m_G 153 19 [.ref a0, v1, v2, v3, v4] (.ref a0 :: st) μ := g_aload_n (i := 0) (by decide +kernel) rfl
theorem i153_19 : m_G 153 19 L (.ref a0 :: st) μ = b_v (m_gf μ a0 9 27) 153 22 L st μ := g_getf (i := 235) (by decide +kernel) (by decide +kernel)
theorem i153_22 : m_G 153 22 L (.int x1 :: .int x0 :: st) μ = if x0 < x1 then m_G 153 25 L st μ else m_G 153 53 L st μ := g_cmpge (off := 31) (by decide +kernel) (by decide)
theorem i153_25 : m_G 153 25 [v0, v1, v2, .int x0, v4] st μ = m_G 153 26 [v0, v1, v2, .int x0, v4] (.int x0 :: st) μ := g_iload_n (i := 3) (by decide +kernel) rfl
theorem i153_26 : m_G 153 26 [.ref a0, v1, v2, v3, v4] st μ = m_G 153 27 [.ref a0, v1, v2, v3, v4] (.ref a0 :: st) μ := g_aload_n (i := 0) (by decide +kernel) rfl
theorem i153_27 : m_G 153 27 [v0, v1, v2, v3, .int x0] st μ = m_G 153 29 [v0, v1, v2, v3, .int x0] (.int x0 :: st) μ := g_iload (i := 4) (by decide +kernel) rfl
theorem i153_29 : m_G 153 29 [v0, .int x0, v2, v3, v4] st μ = m_G 153 30 [v0, .int x0, v2, v3, v4] (.int x0 :: st) μ := g_iload_n (i := 1) (by decide +kernel) rfl
theorem i153_30 : m_G 153 30 [v0, v1, .int x0, v3, v4] st μ = m_G 153 31 [v0, v1, .int x0, v3, v4] (.int x0 :: st) μ := g_iload_n (i := 2) (by decide +kernel) rfl
theorem i153_31 (ho : m_oc μ a0 = some 9) : m_G 153 31 L (.int x2 :: .int x1 :: .int x0 :: .ref a0 :: [w0]) μ = b_c (m_D 151 [.ref a0, .int x0, .int x1, .int x2] μ) 153 34 L [w0] := g_virt (i := 246) (n := 3) (a := a0) (c := 9) (l := [(9, 151)]) (by decide +kernel) (by decide +kernel) rfl rfl (x_call_ok (ws := [1, 1, 1, 1]) (Nat.le_of_ble_eq_true rfl) rfl (by decide +kernel) rfl (by decide +kernel) rfl rfl) ho
theorem i153_34 : m_G 153 34 L (.int x0 :: st) μ = if x0 = 0 then m_G 153 41 L st μ else m_G 153 37 L st μ := g_ifeq (off := 7) (by decide +kernel) (by decide)
theorem i153_37 : m_G 153 37 L st μ = m_G 153 38 L (.int 0 :: st) μ := g_iconst (n := 0) (by decide +kernel) (by decide)
theorem i153_38 : m_G 153 38 L st μ = m_G 153 45 L st μ := g_goto (off := 7) (by decide +kernel) (by decide)
theorem i153_41 : m_G 153 41 L st μ = m_G 153 42 L (.int 2 :: st) μ := g_iconst (n := 2) (by decide +kernel) (by decide)
theorem i153_42 : m_G 153 42 [v0, v1, v2, v3, .int x0] st μ = m_G 153 44 [v0, v1, v2, v3, .int x0] (.int x0 :: st) μ := g_iload (i := 4) (by decide +kernel) rfl
theorem i153_44 : m_G 153 44 L (.int x1 :: .int x0 :: st) μ = m_G 153 45 L (.int (x0 <<< (x1 &&& 31)) :: st) μ := g_ishl (by decide +kernel)
theorem i153_45 : m_G 153 45 L (.int x1 :: .int x0 :: st) μ = m_G 153 46 L (.int (x0 ||| x1) :: st) μ := g_ior (by decide +kernel)
theorem i153_46 : m_G 153 46 [v0, v1, v2, v3, v4] (.int x0 :: st) μ = m_G 153 47 [v0, v1, v2, .int x0, v4] st μ := g_istore_n (i := 3) (by decide +kernel) (Nat.le_of_ble_eq_true rfl) rfl
theorem i153_47 : m_G 153 47 [v0, v1, v2, v3, .int x0] st μ = m_G 153 50 [v0, v1, v2, v3, .int (x0 + 1)] st μ := g_iinc (i := 4) (n := 1) (by decide +kernel) rfl (by decide) rfl
theorem i153_50 : m_G 153 50 L st μ = m_G 153 16 L st μ := g_goto (off := -34) (by decide +kernel) (by decide)
theorem i153_53 : m_G 153 53 [v0, v1, v2, .int x0, v4] st μ = m_G 153 54 [v0, v1, v2, .int x0, v4] (.int x0 :: st) μ := g_iload_n (i := 3) (by decide +kernel) rfl
theorem i153_54 : m_G 153 54 L [.int x0] μ = some (some (.int x0), μ) := g_ireti (by decide +kernel) (by decide)
theorem D153 : m_D 153 [.ref a0, .int x0, .int x1] μ = m_G 153 0 [.ref a0, .int x0, .int x1, m_d, m_d] [] μ := d_def (by decide) rfl
theorem i154_0 : m_G 154 0 [.ref a0, v1, v2] st μ = m_G 154 1 [.ref a0, v1, v2] (.ref a0 :: st) μ := g_aload_n (i := 0) (by decide +kernel) rfl
theorem i154_1 : m_G 154 1 [v0, .int x0, v2] st μ = m_G 154 2 [v0, .int x0, v2] (.int x0 :: st) μ := g_iload_n (i := 1) (by decide +kernel) rfl
theorem i154_2 (ho : m_oc μ a0 = some 9) : m_G 154 2 L (.int x0 :: .ref a0 :: []) μ = b_c (m_D 117 [.ref a0, .int x0] μ) 154 5 L [] := g_virt (i := 154) (n := 1) (a := a0) (c := 9) (l := [(9, 117)]) (by decide +kernel) (by decide +kernel) rfl rfl (x_call_ok (ws := [1, 1]) (Nat.le_of_ble_eq_true rfl) rfl (by decide +kernel) rfl (by decide +kernel) rfl rfl) ho
theorem i154_5 : m_G 154 5 L (.int x0 :: st) μ = if x0 = 0 then m_G 154 25 L st μ else m_G 154 8 L st μ := g_ifeq (off := 20) (by decide +kernel) (by decide)
theorem i154_8 : m_G 154 8 [.ref a0, v1, v2] st μ = m_G 154 9 [.ref a0, v1, v2] (.ref a0 :: st) μ := g_aload_n (i := 0) (by decide +kernel) rfl
theorem i154_9 : m_G 154 9 [v0, v1, .int x0] st μ = m_G 154 10 [v0, v1, .int x0] (.int x0 :: st) μ := g_iload_n (i := 2) (by decide +kernel) rfl
theorem i154_10 (ho : m_oc μ a0 = some 9) : m_G 154 10 L (.int x0 :: .ref a0 :: []) μ = b_c (m_D 105 [.ref a0, .int x0] μ) 154 13 L [] := g_virt (i := 106) (n := 1) (a := a0) (c := 9) (l := [(9, 105)]) (by decide +kernel) (by decide +kernel) rfl rfl (x_call_ok (ws := [1, 1]) (Nat.le_of_ble_eq_true rfl) rfl (by decide +kernel) rfl (by decide +kernel) rfl rfl) ho
theorem i154_13 : m_G 154 13 L (.int x0 :: st) μ = if x0 = 0 then m_G 154 25 L st μ else m_G 154 16 L st μ := g_ifeq (off := 12) (by decide +kernel) (by decide)
theorem i154_16 : m_G 154 16 [.ref a0, v1, v2] st μ = m_G 154 17 [.ref a0, v1, v2] (.ref a0 :: st) μ := g_aload_n (i := 0) (by decide +kernel) rfl
theorem i154_17 : m_G 154 17 [v0, .int x0, v2] st μ = m_G 154 18 [v0, .int x0, v2] (.int x0 :: st) μ := g_iload_n (i := 1) (by decide +kernel) rfl
theorem i154_18 : m_G 154 18 [v0, v1, .int x0] st μ = m_G 154 19 [v0, v1, .int x0] (.int x0 :: st) μ := g_iload_n (i := 2) (by decide +kernel) rfl
theorem i154_19 (ho : m_oc μ a0 = some 9) : m_G 154 19 L (.int x1 :: .int x0 :: .ref a0 :: []) μ = b_c (m_D 153 [.ref a0, .int x0, .int x1] μ) 154 22 L [] := g_virt (i := 249) (n := 2) (a := a0) (c := 9) (l := [(9, 153)]) (by decide +kernel) (by decide +kernel) rfl rfl (x_call_ok (ws := [1, 1, 1]) (Nat.le_of_ble_eq_true rfl) rfl (by decide +kernel) rfl (by decide +kernel) rfl rfl) ho
theorem i154_22 : m_G 154 22 L st μ = m_G 154 27 L st μ := g_goto (off := 5) (by decide +kernel) (by decide)
theorem i154_25 : m_G 154 25 L st μ = m_G 154 27 L (.int (-101) :: st) μ := g_bipush (n := -101) (by decide +kernel) (by decide)
theorem i154_27 : m_G 154 27 L [.int x0] μ = some (some (.int x0), μ) := g_ireti (by decide +kernel) (by decide)
theorem D154 : m_D 154 [.ref a0, .int x0, .int x1] μ = m_G 154 0 [.ref a0, .int x0, .int x1] [] μ := d_def (by decide) rfl
theorem i155_0 : m_G 155 0 [.ref a0, v1, v2, v3, v4] st μ = m_G 155 1 [.ref a0, v1, v2, v3, v4] (.ref a0 :: st) μ := g_aload_n (i := 0) (by decide +kernel) rfl
theorem i155_1 : m_G 155 1 [v0, .int x0, v2, v3, v4] st μ = m_G 155 2 [v0, .int x0, v2, v3, v4] (.int x0 :: st) μ := g_iload_n (i := 1) (by decide +kernel) rfl
theorem i155_2 : m_G 155 2 [v0, v1, .int x0, v3, v4] st μ = m_G 155 3 [v0, v1, .int x0, v3, v4] (.int x0 :: st) μ := g_iload_n (i := 2) (by decide +kernel) rfl
theorem i155_3 (ho : m_oc μ a0 = some 9) : m_G 155 3 L (.int x1 :: .int x0 :: .ref a0 :: []) μ = b_c (m_D 149 [.ref a0, .int x0, .int x1] μ) 155 6 L [] := g_virt (i := 238) (n := 2) (a := a0) (c := 9) (l := [(9, 149)]) (by decide +kernel) (by decide +kernel) rfl rfl (x_call_ok (ws := [1, 1, 1]) (Nat.le_of_ble_eq_true rfl) rfl (by decide +kernel) rfl (by decide +kernel) rfl rfl) ho
theorem i155_6 : m_G 155 6 L st μ = m_G 155 7 L (.int 0 :: st) μ := g_iconst (n := 0) (by decide +kernel) (by decide)
theorem i155_7 : m_G 155 7 [v0, v1, v2, v3, v4] (.int x0 :: st) μ = m_G 155 8 [v0, v1, v2, .int x0, v4] st μ := g_istore_n (i := 3) (by decide +kernel) (Nat.le_of_ble_eq_true rfl) rfl
theorem i155_8 : m_G 155 8 L st μ = m_G 155 9 L (.int 0 :: st) μ := g_iconst (n := 0) (by decide +kernel) (by decide)
theorem i155_9 : m_G 155 9 [v0, v1, v2, v3, v4] (.int x0 :: st) μ = m_G 155 11 [v0, v1, v2, v3, .int x0] st μ := g_istore (i := 4) (by decide +kernel) (Nat.le_of_ble_eq_true rfl) rfl
theorem i155_11 : m_G 155 11 [v0, v1, v2, v3, .int x0] st μ = m_G 155 13 [v0, v1, v2, v3, .int x0] (.int x0 :: st) μ := g_iload (i := 4) (by decide +kernel) rfl
theorem i155_13 : m_G 155 13 L st μ = m_G 155 15 L (.int 100 :: st) μ := g_bipush (n := 100) (by decide +kernel) (by decide)
theorem i155_15 : m_G 155 15 L (.int x1 :: .int x0 :: st) μ = if x0 < x1 then m_G 155 18 L st μ else m_G 155 56 L st μ := g_cmpge (off := 41) (by decide +kernel) (by decide)
theorem i155_18 : m_G 155 18 [v0, v1, v2, .int x0, v4] st μ = m_G 155 19 [v0, v1, v2, .int x0, v4] (.int x0 :: st) μ := g_iload_n (i := 3) (by decide +kernel) rfl
theorem i155_19 : m_G 155 19 [.ref a0, v1, v2, v3, v4] st μ = m_G 155 20 [.ref a0, v1, v2, v3, v4] (.ref a0 :: st) μ := g_aload_n (i := 0) (by decide +kernel) rfl
theorem i155_20 : m_G 155 20 L (.ref a0 :: st) μ = b_v (m_gf μ a0 9 31) 155 23 L st μ := g_getf (i := 77) (by decide +kernel) (by decide +kernel)
theorem i155_23 : m_G 155 23 [v0, v1, v2, v3, .int x0] st μ = m_G 155 25 [v0, v1, v2, v3, .int x0] (.int x0 :: st) μ := g_iload (i := 4) (by decide +kernel) rfl
theorem i155_25 : m_G 155 25 L (.int x0 :: .ref a0 :: st) μ = b_i (m_ga μ a0 x0) 155 26 L st μ := g_iald (by decide +kernel)
theorem i155_26 : m_G 155 26 L (.int x0 :: st) μ = if x0 = 0 then m_G 155 29 L st μ else m_G 155 33 L st μ := g_ifne (off := 7) (by decide +kernel) (by decide)
theorem i155_29 : m_G 155 29 L st μ = m_G 155 30 L (.int 0 :: st) μ := g_iconst (n := 0) (by decide +kernel) (by decide)
theorem i155_30 : m_G 155 30 L st μ = m_G 155 48 L st μ := g_goto (off := 18) (by decide +kernel) (by decide)
theorem i155_33 : m_G 155 33 [.ref a0, v1, v2, v3, v4] st μ = m_G 155 34 [.ref a0, v1, v2, v3, v4] (.ref a0 :: st) μ := g_aload_n (i := 0) (by decide +kernel) rfl
theorem i155_34 : m_G 155 34 L (.ref a0 :: st) μ = b_v (m_gf μ a0 9 32) 155 37 L st μ := g_getf (i := 80) (by decide +kernel) (by decide +kernel)
theorem i155_37 : m_G 155 37 [v0, v1, v2, v3, .int x0] st μ = m_G 155 39 [v0, v1, v2, v3, .int x0] (.int x0 :: st) μ := g_iload (i := 4) (by decide +kernel) rfl
theorem i155_39 : m_G 155 39 L (.int x0 :: .ref a0 :: st) μ = b_i (m_gb μ a0 x0) 155 40 L st μ := g_bald (by decide +kernel)
theorem i155_40 : m_G 155 40 L (.int x0 :: st) μ = if x0 = 0 then m_G 155 47 L st μ else m_G 155 43 L st μ := g_ifeq (off := 7) (by decide +kernel) (by decide)
theorem i155_43 : m_G 155 43 L st μ = m_G 155 44 L (.int 1 :: st) μ := g_iconst (n := 1) (by decide +kernel) (by decide)
theorem i155_44 : m_G 155 44 L st μ = m_G 155 48 L st μ := g_goto (off := 4) (by decide +kernel) (by decide)
theorem i155_47 : m_G 155 47 L st μ = m_G 155 48 L (.int (-1) :: st) μ := g_iconst (n := -1) (by decide +kernel) (by decide)
theorem i155_48 : m_G 155 48 L (.int x1 :: .int x0 :: st) μ = m_G 155 49 L (.int (x0 + x1) :: st) μ := g_iadd (by decide +kernel)
theorem i155_49 : m_G 155 49 [v0, v1, v2, v3, v4] (.int x0 :: st) μ = m_G 155 50 [v0, v1, v2, .int x0, v4] st μ := g_istore_n (i := 3) (by decide +kernel) (Nat.le_of_ble_eq_true rfl) rfl
theorem i155_50 : m_G 155 50 [v0, v1, v2, v3, .int x0] st μ = m_G 155 53 [v0, v1, v2, v3, .int (x0 + 1)] st μ := g_iinc (i := 4) (n := 1) (by decide +kernel) rfl (by decide) rfl
theorem i155_53 : m_G 155 53 L st μ = m_G 155 11 L st μ := g_goto (off := -42) (by decide +kernel) (by decide)
theorem i155_56 : m_G 155 56 [v0, v1, v2, .int x0, v4] st μ = m_G 155 57 [v0, v1, v2, .int x0, v4] (.int x0 :: st) μ := g_iload_n (i := 3) (by decide +kernel) rfl
theorem i155_57 : m_G 155 57 L [.int x0] μ = some (some (.int x0), μ) := g_ireti (by decide +kernel) (by decide)
theorem D155 : m_D 155 [.ref a0, .int x0, .int x1] μ = m_G 155 0 [.ref a0, .int x0, .int x1, m_d, m_d] [] μ := d_def (by decide) rfl
theorem i156_0 : m_G 156 0 [.ref a0, v1, v2, v3, v4, v5, v6, v7, v8, v9, v10, v11, v12] st μ = m_G 156 1 [.ref a0, v1, v2, v3, v4, v5, v6, v7, v8, v9, v10, v11, v12] (.ref a0 :: st) μ := g_aload_n (i := 0) (by decide +kernel) rfl
theorem i156_1 : m_G 156 1 [v0, .int x0, v2, v3, v4, v5, v6, v7, v8, v9, v10, v11, v12] st μ = m_G 156 2 [v0, .int x0, v2, v3, v4, v5, v6, v7, v8, v9, v10, v11, v12] (.int x0 :: st) μ := g_iload_n (i := 1) (by decide +kernel) rfl
theorem i156_2 (ho : m_oc μ a0 = some 9) : m_G 156 2 L (.int x0 :: .ref a0 :: []) μ = b_c (m_D 117 [.ref a0, .int x0] μ) 156 5 L [] := g_virt (i := 154) (n := 1) (a := a0) (c := 9) (l := [(9, 117)]) (by decide +kernel) (by decide +kernel) rfl rfl (x_call_ok (ws := [1, 1]) (Nat.le_of_ble_eq_true rfl) rfl (by decide +kernel) rfl (by decide +kernel) rfl rfl) ho
theorem i156_5 : m_G 156 5 L (.int x0 :: st) μ = if x0 = 0 then m_G 156 29 L st μ else m_G 156 8 L st μ := g_ifeq (off := 24) (by decide +kernel) (by decide)
theorem i156_8 : m_G 156 8 [.ref a0, v1, v2, v3, v4, v5, v6, v7, v8, v9, v10, v11, v12] st μ = m_G 156 9 [.ref a0, v1, v2, v3, v4, v5, v6, v7, v8, v9, v10, v11, v12] (.ref a0 :: st) μ := g_aload_n (i := 0) (by decide +kernel) rfl
theorem i156_9 : m_G 156 9 [v0, v1, .int x0, v3, v4, v5, v6, v7, v8, v9, v10, v11, v12] st μ = m_G 156 10 [v0, v1, .int x0, v3, v4, v5, v6, v7, v8, v9, v10, v11, v12] (.int x0 :: st) μ := g_iload_n (i := 2) (by decide +kernel) rfl
theorem i156_10 (ho : m_oc μ a0 = some 9) : m_G 156 10 L (.int x0 :: .ref a0 :: []) μ = b_c (m_D 105 [.ref a0, .int x0] μ) 156 13 L [] := g_virt (i := 106) (n := 1) (a := a0) (c := 9) (l := [(9, 105)]) (by decide +kernel) (by decide +kernel) rfl rfl (x_call_ok (ws := [1, 1]) (Nat.le_of_ble_eq_true rfl) rfl (by decide +kernel) rfl (by decide +kernel) rfl rfl) ho
theorem i156_13 : m_G 156 13 L (.int x0 :: st) μ = if x0 = 0 then m_G 156 29 L st μ else m_G 156 16 L st μ := g_ifeq (off := 16) (by decide +kernel) (by decide)
theorem i156_16 : m_G 156 16 [.ref a0, v1, v2, v3, v4, v5, v6, v7, v8, v9, v10, v11, v12] st μ = m_G 156 17 [.ref a0, v1, v2, v3, v4, v5, v6, v7, v8, v9, v10, v11, v12] (.ref a0 :: st) μ := g_aload_n (i := 0) (by decide +kernel) rfl
theorem i156_17 : m_G 156 17 [v0, v1, v2, .int x0, v4, v5, v6, v7, v8, v9, v10, v11, v12] st μ = m_G 156 18 [v0, v1, v2, .int x0, v4, v5, v6, v7, v8, v9, v10, v11, v12] (.int x0 :: st) μ := g_iload_n (i := 3) (by decide +kernel) rfl
theorem i156_18 (ho : m_oc μ a0 = some 9) : m_G 156 18 L (.int x0 :: .ref a0 :: []) μ = b_c (m_D 105 [.ref a0, .int x0] μ) 156 21 L [] := g_virt (i := 106) (n := 1) (a := a0) (c := 9) (l := [(9, 105)]) (by decide +kernel) (by decide +kernel) rfl rfl (x_call_ok (ws := [1, 1]) (Nat.le_of_ble_eq_true rfl) rfl (by decide +kernel) rfl (by decide +kernel) rfl rfl) ho
theorem i156_21 : m_G 156 21 L (.int x0 :: st) μ = if x0 = 0 then m_G 156 29 L st μ else m_G 156 24 L st μ := g_ifeq (off := 8) (by decide +kernel) (by decide)
theorem i156_24 : m_G 156 24 [v0, v1, .int x0, v3, v4, v5, v6, v7, v8, v9, v10, v11, v12] st μ = m_G 156 25 [v0, v1, .int x0, v3, v4, v5, v6, v7, v8, v9, v10, v11, v12] (.int x0 :: st) μ := g_iload_n (i := 2) (by decide +kernel) rfl
theorem i156_25 : m_G 156 25 [v0, v1, v2, .int x0, v4, v5, v6, v7, v8, v9, v10, v11, v12] st μ = m_G 156 26 [v0, v1, v2, .int x0, v4, v5, v6, v7, v8, v9, v10, v11, v12] (.int x0 :: st) μ := g_iload_n (i := 3) (by decide +kernel) rfl
theorem i156_26 : m_G 156 26 L (.int x1 :: .int x0 :: st) μ = if x0 = x1 then m_G 156 29 L st μ else m_G 156 32 L st μ := g_cmpne (off := 6) (by decide +kernel) (by decide)
theorem i156_29 : m_G 156 29 L st μ = m_G 156 31 L (.int (-101) :: st) μ := g_bipush (n := -101) (by decide +kernel) (by decide)
theorem i156_31 : m_G 156 31 L [.int x0] μ = some (some (.int x0), μ) := g_ireti (by decide +kernel) (by decide)
theorem i156_32 : m_G 156 32 [v0, v1, v2, v3, .int x0, v5, v6, v7, v8, v9, v10, v11, v12] st μ = m_G 156 34 [v0, v1, v2, v3, .int x0, v5, v6, v7, v8, v9, v10, v11, v12] (.int x0 :: st) μ := g_iload (i := 4) (by decide +kernel) rfl
theorem i156_34 : m_G 156 34 L (.int x0 :: st) μ = m_G 156 35 L (.long x0.toInt64 :: st) μ := g_i2l (by decide +kernel)
theorem i156_35 : m_G 156 35 L st μ = m_G 156 36 L (.long 0 :: st) μ := g_lconst (n := 0) (by decide +kernel) (by decide)
theorem i156_36 : m_G 156 36 L st μ = m_G 156 39 L (.long (3) :: st) μ := g_ldc2_w (i := 225) (by decide +kernel) (by decide +kernel)
theorem i156_39 : m_G 156 39 L (.long l2 :: .long l1 :: .long l0 :: []) μ = b_c (m_D 102 [.long l0, .long l1, .long l2] μ) 156 42 L [] := g_stat (i := 102) (n := 3) (by decide +kernel) (by decide +kernel) (by decide) (x_call_ok (ws := [2, 2, 2]) (Nat.le_of_ble_eq_true rfl) rfl (by decide +kernel) rfl (by decide +kernel) rfl rfl)
theorem i156_42 : m_G 156 42 L (.int x0 :: st) μ = if x0 = 0 then m_G 156 45 L st μ else m_G 156 63 L st μ := g_ifne (off := 21) (by decide +kernel) (by decide)
theorem i156_45 : m_G 156 45 [v0, v1, v2, v3, .int x0, v5, v6, v7, v8, v9, v10, v11, v12] st μ = m_G 156 47 [v0, v1, v2, v3, .int x0, v5, v6, v7, v8, v9, v10, v11, v12] (.int x0 :: st) μ := g_iload (i := 4) (by decide +kernel) rfl
theorem i156_47 : m_G 156 47 L (.int x0 :: st) μ = m_G 156 48 L (.long x0.toInt64 :: st) μ := g_i2l (by decide +kernel)
theorem i156_48 : m_G 156 48 L st μ = m_G 156 51 L (.long (10) :: st) μ := g_ldc2_w (i := 252) (by decide +kernel) (by decide +kernel)
theorem i156_51 : m_G 156 51 L st μ = m_G 156 54 L (.long (12) :: st) μ := g_ldc2_w (i := 254) (by decide +kernel) (by decide +kernel)
theorem i156_54 : m_G 156 54 L (.long l2 :: .long l1 :: .long l0 :: []) μ = b_c (m_D 102 [.long l0, .long l1, .long l2] μ) 156 57 L [] := g_stat (i := 102) (n := 3) (by decide +kernel) (by decide +kernel) (by decide) (x_call_ok (ws := [2, 2, 2]) (Nat.le_of_ble_eq_true rfl) rfl (by decide +kernel) rfl (by decide +kernel) rfl rfl)
theorem i156_57 : m_G 156 57 L (.int x0 :: st) μ = if x0 = 0 then m_G 156 60 L st μ else m_G 156 63 L st μ := g_ifne (off := 6) (by decide +kernel) (by decide)
theorem i156_60 : m_G 156 60 L st μ = m_G 156 62 L (.int (-102) :: st) μ := g_bipush (n := -102) (by decide +kernel) (by decide)
theorem i156_62 : m_G 156 62 L [.int x0] μ = some (some (.int x0), μ) := g_ireti (by decide +kernel) (by decide)
theorem i156_63 : m_G 156 63 [.ref a0, v1, v2, v3, v4, v5, v6, v7, v8, v9, v10, v11, v12] st μ = m_G 156 64 [.ref a0, v1, v2, v3, v4, v5, v6, v7, v8, v9, v10, v11, v12] (.ref a0 :: st) μ := g_aload_n (i := 0) (by decide +kernel) rfl
theorem i156_64 : m_G 156 64 [v0, v1, .int x0, v3, v4, v5, v6, v7, v8, v9, v10, v11, v12] st μ = m_G 156 65 [v0, v1, .int x0, v3, v4, v5, v6, v7, v8, v9, v10, v11, v12] (.int x0 :: st) μ := g_iload_n (i := 2) (by decide +kernel) rfl
theorem i156_65 : m_G 156 65 [.ref a0, v1, v2, v3, v4, v5, v6, v7, v8, v9, v10, v11, v12] st μ = m_G 156 66 [.ref a0, v1, v2, v3, v4, v5, v6, v7, v8, v9, v10, v11, v12] (.ref a0 :: st) μ := g_aload_n (i := 0) (by decide +kernel) rfl
theorem i156_66 : m_G 156 66 [v0, .int x0, v2, v3, v4, v5, v6, v7, v8, v9, v10, v11, v12] st μ = m_G 156 67 [v0, .int x0, v2, v3, v4, v5, v6, v7, v8, v9, v10, v11, v12] (.int x0 :: st) μ := g_iload_n (i := 1) (by decide +kernel) rfl
theorem i156_67 : m_G 156 67 [v0, v1, .int x0, v3, v4, v5, v6, v7, v8, v9, v10, v11, v12] st μ = m_G 156 68 [v0, v1, .int x0, v3, v4, v5, v6, v7, v8, v9, v10, v11, v12] (.int x0 :: st) μ := g_iload_n (i := 2) (by decide +kernel) rfl
theorem i156_68 (ho : m_oc μ a0 = some 9) : m_G 156 68 L (.int x1 :: .int x0 :: .ref a0 :: [w0, w1]) μ = b_c (m_D 127 [.ref a0, .int x0, .int x1] μ) 156 71 L [w0, w1] := g_virt (i := 187) (n := 2) (a := a0) (c := 9) (l := [(9, 127)]) (by decide +kernel) (by decide +kernel) rfl rfl (x_call_ok (ws := [1, 1, 1]) (Nat.le_of_ble_eq_true rfl) rfl (by decide +kernel) rfl (by decide +kernel) rfl rfl) ho
theorem i156_71 (ho : m_oc μ a0 = some 9) : m_G 156 71 L (.int x1 :: .int x0 :: .ref a0 :: []) μ = b_c (m_D 149 [.ref a0, .int x0, .int x1] μ) 156 74 L [] := g_virt (i := 238) (n := 2) (a := a0) (c := 9) (l := [(9, 149)]) (by decide +kernel) (by decide +kernel) rfl rfl (x_call_ok (ws := [1, 1, 1]) (Nat.le_of_ble_eq_true rfl) rfl (by decide +kernel) rfl (by decide +kernel) rfl rfl) ho
theorem i156_74 : m_G 156 74 L st μ = m_G 156 75 L (.int 0 :: st) μ := g_iconst (n := 0) (by decide +kernel) (by decide)
theorem i156_75 : m_G 156 75 [v0, v1, v2, v3, v4, v5, v6, v7, v8, v9, v10, v11, v12] (.int x0 :: st) μ = m_G 156 77 [v0, v1, v2, v3, v4, .int x0, v6, v7, v8, v9, v10, v11, v12] st μ := g_istore (i := 5) (by decide +kernel) (Nat.le_of_ble_eq_true rfl) rfl
theorem i156_77 : m_G 156 77 L st μ = m_G 156 78 L (.int 0 :: st) μ := g_iconst (n := 0) (by decide +kernel) (by decide)
theorem i156_78 : m_G 156 78 [v0, v1, v2, v3, v4, v5, v6, v7, v8, v9, v10, v11, v12] (.int x0 :: st) μ = m_G 156 80 [v0, v1, v2, v3, v4, v5, .int x0, v7, v8, v9, v10, v11, v12] st μ := g_istore (i := 6) (by decide +kernel) (Nat.le_of_ble_eq_true rfl) rfl
theorem i156_80 : m_G 156 80 [v0, v1, v2, v3, v4, v5, .int x0, v7, v8, v9, v10, v11, v12] st μ = m_G 156 82 [v0, v1, v2, v3, v4, v5, .int x0, v7, v8, v9, v10, v11, v12] (.int x0 :: st) μ := g_iload (i := 6) (by decide +kernel) rfl
theorem i156_82 : m_G 156 82 L st μ = m_G 156 84 L (.int 100 :: st) μ := g_bipush (n := 100) (by decide +kernel) (by decide)
theorem i156_84 : m_G 156 84 L (.int x1 :: .int x0 :: st) μ = if x0 < x1 then m_G 156 87 L st μ else m_G 156 137 L st μ := g_cmpge (off := 53) (by decide +kernel) (by decide)
theorem i156_87 : m_G 156 87 [.ref a0, v1, v2, v3, v4, v5, v6, v7, v8, v9, v10, v11, v12] st μ = m_G 156 88 [.ref a0, v1, v2, v3, v4, v5, v6, v7, v8, v9, v10, v11, v12] (.ref a0 :: st) μ := g_aload_n (i := 0) (by decide +kernel) rfl
theorem i156_88 : m_G 156 88 L (.ref a0 :: st) μ = b_v (m_gf μ a0 9 32) 156 91 L st μ := g_getf (i := 80) (by decide +kernel) (by decide +kernel)
theorem i156_91 : m_G 156 91 [v0, v1, v2, v3, v4, v5, .int x0, v7, v8, v9, v10, v11, v12] st μ = m_G 156 93 [v0, v1, v2, v3, v4, v5, .int x0, v7, v8, v9, v10, v11, v12] (.int x0 :: st) μ := g_iload (i := 6) (by decide +kernel) rfl
theorem i156_93 : m_G 156 93 [.ref a0, v1, v2, v3, v4, v5, v6, v7, v8, v9, v10, v11, v12] st μ = m_G 156 94 [.ref a0, v1, v2, v3, v4, v5, v6, v7, v8, v9, v10, v11, v12] (.ref a0 :: st) μ := g_aload_n (i := 0) (by decide +kernel) rfl
theorem i156_94 : m_G 156 94 L (.ref a0 :: st) μ = b_v (m_gf μ a0 9 31) 156 97 L st μ := g_getf (i := 77) (by decide +kernel) (by decide +kernel)
theorem i156_97 : m_G 156 97 [v0, v1, v2, v3, v4, v5, .int x0, v7, v8, v9, v10, v11, v12] st μ = m_G 156 99 [v0, v1, v2, v3, v4, v5, .int x0, v7, v8, v9, v10, v11, v12] (.int x0 :: st) μ := g_iload (i := 6) (by decide +kernel) rfl
theorem i156_99 : m_G 156 99 L (.int x0 :: .ref a0 :: st) μ = b_i (m_ga μ a0 x0) 156 100 L st μ := g_iald (by decide +kernel)
theorem i156_100 : m_G 156 100 L (.int x0 :: st) μ = if x0 ≤ 0 then m_G 156 107 L st μ else m_G 156 103 L st μ := g_ifle (off := 7) (by decide +kernel) (by decide)
theorem i156_103 : m_G 156 103 L st μ = m_G 156 104 L (.int 1 :: st) μ := g_iconst (n := 1) (by decide +kernel) (by decide)
theorem i156_104 : m_G 156 104 L st μ = m_G 156 108 L st μ := g_goto (off := 4) (by decide +kernel) (by decide)
theorem i156_107 : m_G 156 107 L st μ = m_G 156 108 L (.int 0 :: st) μ := g_iconst (n := 0) (by decide +kernel) (by decide)
theorem i156_108 : m_G 156 108 L (.int x1 :: .int x0 :: .ref a0 :: st) μ = b_m (m_pb μ a0 x0 x1) 156 109 L st := g_bast (by decide +kernel)
theorem i156_109 : m_G 156 109 [v0, v1, v2, v3, v4, .int x0, v6, v7, v8, v9, v10, v11, v12] st μ = m_G 156 111 [v0, v1, v2, v3, v4, .int x0, v6, v7, v8, v9, v10, v11, v12] (.int x0 :: st) μ := g_iload (i := 5) (by decide +kernel) rfl
theorem i156_111 : m_G 156 111 L (.int x0 :: st) μ = if x0 = 0 then m_G 156 114 L st μ else m_G 156 124 L st μ := g_ifne (off := 13) (by decide +kernel) (by decide)
theorem i156_114 : m_G 156 114 [.ref a0, v1, v2, v3, v4, v5, v6, v7, v8, v9, v10, v11, v12] st μ = m_G 156 115 [.ref a0, v1, v2, v3, v4, v5, v6, v7, v8, v9, v10, v11, v12] (.ref a0 :: st) μ := g_aload_n (i := 0) (by decide +kernel) rfl
theorem i156_115 : m_G 156 115 L (.ref a0 :: st) μ = b_v (m_gf μ a0 9 32) 156 118 L st μ := g_getf (i := 80) (by decide +kernel) (by decide +kernel)
theorem i156_118 : m_G 156 118 [v0, v1, v2, v3, v4, v5, .int x0, v7, v8, v9, v10, v11, v12] st μ = m_G 156 120 [v0, v1, v2, v3, v4, v5, .int x0, v7, v8, v9, v10, v11, v12] (.int x0 :: st) μ := g_iload (i := 6) (by decide +kernel) rfl
theorem i156_120 : m_G 156 120 L (.int x0 :: .ref a0 :: st) μ = b_i (m_gb μ a0 x0) 156 121 L st μ := g_bald (by decide +kernel)
theorem i156_121 : m_G 156 121 L (.int x0 :: st) μ = if x0 = 0 then m_G 156 128 L st μ else m_G 156 124 L st μ := g_ifeq (off := 7) (by decide +kernel) (by decide)
theorem i156_124 : m_G 156 124 L st μ = m_G 156 125 L (.int 1 :: st) μ := g_iconst (n := 1) (by decide +kernel) (by decide)
theorem i156_125 : m_G 156 125 L st μ = m_G 156 129 L st μ := g_goto (off := 4) (by decide +kernel) (by decide)
theorem i156_128 : m_G 156 128 L st μ = m_G 156 129 L (.int 0 :: st) μ := g_iconst (n := 0) (by decide +kernel) (by decide)
theorem i156_129 : m_G 156 129 [v0, v1, v2, v3, v4, v5, v6, v7, v8, v9, v10, v11, v12] (.int x0 :: st) μ = m_G 156 131 [v0, v1, v2, v3, v4, .int x0, v6, v7, v8, v9, v10, v11, v12] st μ := g_istore (i := 5) (by decide +kernel) (Nat.le_of_ble_eq_true rfl) rfl
theorem i156_131 : m_G 156 131 [v0, v1, v2, v3, v4, v5, .int x0, v7, v8, v9, v10, v11, v12] st μ = m_G 156 134 [v0, v1, v2, v3, v4, v5, .int (x0 + 1), v7, v8, v9, v10, v11, v12] st μ := g_iinc (i := 6) (n := 1) (by decide +kernel) rfl (by decide) rfl
theorem i156_134 : m_G 156 134 L st μ = m_G 156 80 L st μ := g_goto (off := -54) (by decide +kernel) (by decide)
theorem i156_137 : m_G 156 137 [v0, v1, v2, v3, v4, .int x0, v6, v7, v8, v9, v10, v11, v12] st μ = m_G 156 139 [v0, v1, v2, v3, v4, .int x0, v6, v7, v8, v9, v10, v11, v12] (.int x0 :: st) μ := g_iload (i := 5) (by decide +kernel) rfl
theorem i156_139 : m_G 156 139 L (.int x0 :: st) μ = if x0 = 0 then m_G 156 142 L st μ else m_G 156 145 L st μ := g_ifne (off := 6) (by decide +kernel) (by decide)
theorem i156_142 : m_G 156 142 L st μ = m_G 156 144 L (.int (-103) :: st) μ := g_bipush (n := -103) (by decide +kernel) (by decide)
theorem i156_144 : m_G 156 144 L [.int x0] μ = some (some (.int x0), μ) := g_ireti (by decide +kernel) (by decide)
theorem i156_145 : m_G 156 145 [.ref a0, v1, v2, v3, v4, v5, v6, v7, v8, v9, v10, v11, v12] st μ = m_G 156 146 [.ref a0, v1, v2, v3, v4, v5, v6, v7, v8, v9, v10, v11, v12] (.ref a0 :: st) μ := g_aload_n (i := 0) (by decide +kernel) rfl
theorem i156_146 : m_G 156 146 [v0, v1, v2, .int x0, v4, v5, v6, v7, v8, v9, v10, v11, v12] st μ = m_G 156 147 [v0, v1, v2, .int x0, v4, v5, v6, v7, v8, v9, v10, v11, v12] (.int x0 :: st) μ := g_iload_n (i := 3) (by decide +kernel) rfl
theorem i156_147 (ho : m_oc μ a0 = some 9) : m_G 156 147 L (.int x0 :: .ref a0 :: []) μ = b_c (m_D 138 [.ref a0, .int x0] μ) 156 150 L [] := g_virt (i := 204) (n := 1) (a := a0) (c := 9) (l := [(9, 138)]) (by decide +kernel) (by decide +kernel) rfl rfl (x_call_ok (ws := [1, 1]) (Nat.le_of_ble_eq_true rfl) rfl (by decide +kernel) rfl (by decide +kernel) rfl rfl) ho
theorem i156_150 : m_G 156 150 L st μ = m_G 156 151 L (.int (-1) :: st) μ := g_iconst (n := -1) (by decide +kernel) (by decide)
theorem i156_151 : m_G 156 151 [v0, v1, v2, v3, v4, v5, v6, v7, v8, v9, v10, v11, v12] (.int x0 :: st) μ = m_G 156 153 [v0, v1, v2, v3, v4, v5, .int x0, v7, v8, v9, v10, v11, v12] st μ := g_istore (i := 6) (by decide +kernel) (Nat.le_of_ble_eq_true rfl) rfl
theorem i156_153 : m_G 156 153 L st μ = m_G 156 154 L (.int 0 :: st) μ := g_iconst (n := 0) (by decide +kernel) (by decide)
theorem i156_154 : m_G 156 154 [v0, v1, v2, v3, v4, v5, v6, v7, v8, v9, v10, v11, v12] (.int x0 :: st) μ = m_G 156 156 [v0, v1, v2, v3, v4, v5, v6, .int x0, v8, v9, v10, v11, v12] st μ := g_istore (i := 7) (by decide +kernel) (Nat.le_of_ble_eq_true rfl) rfl
theorem i156_156 : m_G 156 156 L st μ = m_G 156 157 L (.int 0 :: st) μ := g_iconst (n := 0) (by decide +kernel) (by decide)
theorem i156_157 : m_G 156 157 [v0, v1, v2, v3, v4, v5, v6, v7, v8, v9, v10, v11, v12] (.int x0 :: st) μ = m_G 156 159 [v0, v1, v2, v3, v4, v5, v6, v7, .int x0, v9, v10, v11, v12] st μ := g_istore (i := 8) (by decide +kernel) (Nat.le_of_ble_eq_true rfl) rfl
theorem i156_159 : m_G 156 159 L st μ = m_G 156 160 L (.int 1 :: st) μ := g_iconst (n := 1) (by decide +kernel) (by decide)
theorem i156_160 : m_G 156 160 [v0, v1, v2, v3, v4, v5, v6, v7, v8, v9, v10, v11, v12] (.int x0 :: st) μ = m_G 156 162 [v0, v1, v2, v3, v4, v5, v6, v7, v8, .int x0, v10, v11, v12] st μ := g_istore (i := 9) (by decide +kernel) (Nat.le_of_ble_eq_true rfl) rfl
theorem i156_162 : m_G 156 162 L st μ = m_G 156 163 L (.int 0 :: st) μ := g_iconst (n := 0) (by decide +kernel) (by decide)
theorem i156_163 : m_G 156 163 [v0, v1, v2, v3, v4, v5, v6, v7, v8, v9, v10, v11, v12] (.int x0 :: st) μ = m_G 156 165 [v0, v1, v2, v3, v4, v5, v6, v7, v8, v9, .int x0, v11, v12] st μ := g_istore (i := 10) (by decide +kernel) (Nat.le_of_ble_eq_true rfl) rfl
theorem i156_165 : m_G 156 165 [v0, v1, v2, v3, v4, v5, v6, v7, v8, v9, .int x0, v11, v12] st μ = m_G 156 167 [v0, v1, v2, v3, v4, v5, v6, v7, v8, v9, .int x0, v11, v12] (.int x0 :: st) μ := g_iload (i := 10) (by decide +kernel) rfl
theorem i156_167 : m_G 156 167 L st μ = m_G 156 170 L (.int 3615 :: st) μ := g_sipush (n := 3615) (by decide +kernel) (by decide)
theorem i156_170 : m_G 156 170 L (.int x1 :: .int x0 :: st) μ = if x0 < x1 then m_G 156 173 L st μ else m_G 156 253 L st μ := g_cmpge (off := 83) (by decide +kernel) (by decide)
theorem i156_173 : m_G 156 173 [.ref a0, v1, v2, v3, v4, v5, v6, v7, v8, v9, v10, v11, v12] st μ = m_G 156 174 [.ref a0, v1, v2, v3, v4, v5, v6, v7, v8, v9, v10, v11, v12] (.ref a0 :: st) μ := g_aload_n (i := 0) (by decide +kernel) rfl
theorem i156_174 : m_G 156 174 [v0, v1, v2, v3, v4, v5, v6, v7, v8, v9, .int x0, v11, v12] st μ = m_G 156 176 [v0, v1, v2, v3, v4, v5, v6, v7, v8, v9, .int x0, v11, v12] (.int x0 :: st) μ := g_iload (i := 10) (by decide +kernel) rfl
theorem i156_176 (ho : m_oc μ a0 = some 9) : m_G 156 176 L (.int x0 :: .ref a0 :: []) μ = b_c (m_D 139 [.ref a0, .int x0] μ) 156 179 L [] := g_virt (i := 210) (n := 1) (a := a0) (c := 9) (l := [(9, 139)]) (by decide +kernel) (by decide +kernel) rfl rfl (x_call_ok (ws := [1, 1]) (Nat.le_of_ble_eq_true rfl) rfl (by decide +kernel) rfl (by decide +kernel) rfl rfl) ho
theorem i156_179 : m_G 156 179 [v0, v1, v2, v3, v4, v5, v6, v7, v8, v9, v10, v11, v12] (.int x0 :: st) μ = m_G 156 181 [v0, v1, v2, v3, v4, v5, v6, v7, v8, v9, v10, .int x0, v12] st μ := g_istore (i := 11) (by decide +kernel) (Nat.le_of_ble_eq_true rfl) rfl
theorem i156_181 : m_G 156 181 [.ref a0, v1, v2, v3, v4, v5, v6, v7, v8, v9, v10, v11, v12] st μ = m_G 156 182 [.ref a0, v1, v2, v3, v4, v5, v6, v7, v8, v9, v10, v11, v12] (.ref a0 :: st) μ := g_aload_n (i := 0) (by decide +kernel) rfl
theorem i156_182 : m_G 156 182 [v0, v1, v2, .int x0, v4, v5, v6, v7, v8, v9, v10, v11, v12] st μ = m_G 156 183 [v0, v1, v2, .int x0, v4, v5, v6, v7, v8, v9, v10, v11, v12] (.int x0 :: st) μ := g_iload_n (i := 3) (by decide +kernel) rfl
theorem i156_183 : m_G 156 183 [v0, v1, v2, v3, v4, v5, v6, v7, v8, v9, v10, .int x0, v12] st μ = m_G 156 185 [v0, v1, v2, v3, v4, v5, v6, v7, v8, v9, v10, .int x0, v12] (.int x0 :: st) μ := g_iload (i := 11) (by decide +kernel) rfl
theorem i156_185 (ho : m_oc μ a0 = some 9) : m_G 156 185 L (.int x1 :: .int x0 :: .ref a0 :: []) μ = b_c (m_D 155 [.ref a0, .int x0, .int x1] μ) 156 188 L [] := g_virt (i := 256) (n := 2) (a := a0) (c := 9) (l := [(9, 155)]) (by decide +kernel) (by decide +kernel) rfl rfl (x_call_ok (ws := [1, 1, 1]) (Nat.le_of_ble_eq_true rfl) rfl (by decide +kernel) rfl (by decide +kernel) rfl rfl) ho
theorem i156_188 : m_G 156 188 [v0, v1, v2, v3, v4, v5, v6, v7, v8, v9, v10, v11, v12] (.int x0 :: st) μ = m_G 156 190 [v0, v1, v2, v3, v4, v5, v6, v7, v8, v9, v10, v11, .int x0] st μ := g_istore (i := 12) (by decide +kernel) (Nat.le_of_ble_eq_true rfl) rfl
theorem i156_190 : m_G 156 190 [v0, v1, v2, v3, v4, v5, .int x0, v7, v8, v9, v10, v11, v12] st μ = m_G 156 192 [v0, v1, v2, v3, v4, v5, .int x0, v7, v8, v9, v10, v11, v12] (.int x0 :: st) μ := g_iload (i := 6) (by decide +kernel) rfl
theorem i156_192 : m_G 156 192 L st μ = m_G 156 193 L (.int (-1) :: st) μ := g_iconst (n := -1) (by decide +kernel) (by decide)
theorem i156_193 : m_G 156 193 L (.int x1 :: .int x0 :: st) μ = if x0 = x1 then m_G 156 203 L st μ else m_G 156 196 L st μ := g_cmpeq (off := 10) (by decide +kernel) (by decide)
theorem i156_196 : m_G 156 196 [v0, v1, v2, v3, v4, v5, v6, v7, v8, v9, v10, v11, .int x0] st μ = m_G 156 198 [v0, v1, v2, v3, v4, v5, v6, v7, v8, v9, v10, v11, .int x0] (.int x0 :: st) μ := g_iload (i := 12) (by decide +kernel) rfl
theorem i156_198 : m_G 156 198 [v0, v1, v2, v3, v4, v5, v6, .int x0, v8, v9, v10, v11, v12] st μ = m_G 156 200 [v0, v1, v2, v3, v4, v5, v6, .int x0, v8, v9, v10, v11, v12] (.int x0 :: st) μ := g_iload (i := 7) (by decide +kernel) rfl
theorem i156_200 : m_G 156 200 L (.int x1 :: .int x0 :: st) μ = if x1 < x0 then m_G 156 203 L st μ else m_G 156 221 L st μ := g_cmple (off := 21) (by decide +kernel) (by decide)
theorem i156_203 : m_G 156 203 [v0, v1, v2, v3, v4, v5, v6, v7, v8, v9, .int x0, v11, v12] st μ = m_G 156 205 [v0, v1, v2, v3, v4, v5, v6, v7, v8, v9, .int x0, v11, v12] (.int x0 :: st) μ := g_iload (i := 10) (by decide +kernel) rfl
theorem i156_205 : m_G 156 205 [v0, v1, v2, v3, v4, v5, v6, v7, v8, v9, v10, v11, v12] (.int x0 :: st) μ = m_G 156 207 [v0, v1, v2, v3, v4, v5, .int x0, v7, v8, v9, v10, v11, v12] st μ := g_istore (i := 6) (by decide +kernel) (Nat.le_of_ble_eq_true rfl) rfl
theorem i156_207 : m_G 156 207 [v0, v1, v2, v3, v4, v5, v6, v7, v8, v9, v10, v11, .int x0] st μ = m_G 156 209 [v0, v1, v2, v3, v4, v5, v6, v7, v8, v9, v10, v11, .int x0] (.int x0 :: st) μ := g_iload (i := 12) (by decide +kernel) rfl
theorem i156_209 : m_G 156 209 [v0, v1, v2, v3, v4, v5, v6, v7, v8, v9, v10, v11, v12] (.int x0 :: st) μ = m_G 156 211 [v0, v1, v2, v3, v4, v5, v6, .int x0, v8, v9, v10, v11, v12] st μ := g_istore (i := 7) (by decide +kernel) (Nat.le_of_ble_eq_true rfl) rfl
theorem i156_211 : m_G 156 211 [v0, v1, v2, v3, v4, v5, v6, v7, v8, v9, v10, .int x0, v12] st μ = m_G 156 213 [v0, v1, v2, v3, v4, v5, v6, v7, v8, v9, v10, .int x0, v12] (.int x0 :: st) μ := g_iload (i := 11) (by decide +kernel) rfl
theorem i156_213 : m_G 156 213 [v0, v1, v2, v3, v4, v5, v6, v7, v8, v9, v10, v11, v12] (.int x0 :: st) μ = m_G 156 215 [v0, v1, v2, v3, v4, v5, v6, v7, .int x0, v9, v10, v11, v12] st μ := g_istore (i := 8) (by decide +kernel) (Nat.le_of_ble_eq_true rfl) rfl
theorem i156_215 : m_G 156 215 L st μ = m_G 156 216 L (.int 1 :: st) μ := g_iconst (n := 1) (by decide +kernel) (by decide)
theorem i156_216 : m_G 156 216 [v0, v1, v2, v3, v4, v5, v6, v7, v8, v9, v10, v11, v12] (.int x0 :: st) μ = m_G 156 218 [v0, v1, v2, v3, v4, v5, v6, v7, v8, .int x0, v10, v11, v12] st μ := g_istore (i := 9) (by decide +kernel) (Nat.le_of_ble_eq_true rfl) rfl
theorem i156_218 : m_G 156 218 L st μ = m_G 156 247 L st μ := g_goto (off := 29) (by decide +kernel) (by decide)
theorem i156_221 : m_G 156 221 [v0, v1, v2, v3, v4, v5, v6, v7, v8, v9, v10, v11, .int x0] st μ = m_G 156 223 [v0, v1, v2, v3, v4, v5, v6, v7, v8, v9, v10, v11, .int x0] (.int x0 :: st) μ := g_iload (i := 12) (by decide +kernel) rfl
theorem i156_223 : m_G 156 223 [v0, v1, v2, v3, v4, v5, v6, .int x0, v8, v9, v10, v11, v12] st μ = m_G 156 225 [v0, v1, v2, v3, v4, v5, v6, .int x0, v8, v9, v10, v11, v12] (.int x0 :: st) μ := g_iload (i := 7) (by decide +kernel) rfl
theorem i156_225 : m_G 156 225 L (.int x1 :: .int x0 :: st) μ = if x0 = x1 then m_G 156 228 L st μ else m_G 156 247 L st μ := g_cmpne (off := 22) (by decide +kernel) (by decide)
theorem i156_228 : m_G 156 228 [v0, v1, v2, v3, v4, v5, v6, v7, v8, .int x0, v10, v11, v12] st μ = m_G 156 230 [v0, v1, v2, v3, v4, v5, v6, v7, v8, .int x0, v10, v11, v12] (.int x0 :: st) μ := g_iload (i := 9) (by decide +kernel) rfl
theorem i156_230 : m_G 156 230 L (.int x0 :: st) μ = if x0 = 0 then m_G 156 244 L st μ else m_G 156 233 L st μ := g_ifeq (off := 14) (by decide +kernel) (by decide)
theorem i156_233 : m_G 156 233 [v0, v1, v2, v3, v4, v5, v6, v7, v8, v9, v10, .int x0, v12] st μ = m_G 156 235 [v0, v1, v2, v3, v4, v5, v6, v7, v8, v9, v10, .int x0, v12] (.int x0 :: st) μ := g_iload (i := 11) (by decide +kernel) rfl
theorem i156_235 : m_G 156 235 [v0, v1, v2, v3, v4, v5, v6, v7, .int x0, v9, v10, v11, v12] st μ = m_G 156 237 [v0, v1, v2, v3, v4, v5, v6, v7, .int x0, v9, v10, v11, v12] (.int x0 :: st) μ := g_iload (i := 8) (by decide +kernel) rfl
theorem i156_237 : m_G 156 237 L (.int x1 :: .int x0 :: st) μ = if x0 = x1 then m_G 156 240 L st μ else m_G 156 244 L st μ := g_cmpne (off := 7) (by decide +kernel) (by decide)
theorem i156_240 : m_G 156 240 L st μ = m_G 156 241 L (.int 1 :: st) μ := g_iconst (n := 1) (by decide +kernel) (by decide)
theorem i156_241 : m_G 156 241 L st μ = m_G 156 245 L st μ := g_goto (off := 4) (by decide +kernel) (by decide)
theorem i156_244 : m_G 156 244 L st μ = m_G 156 245 L (.int 0 :: st) μ := g_iconst (n := 0) (by decide +kernel) (by decide)
theorem i156_245 : m_G 156 245 [v0, v1, v2, v3, v4, v5, v6, v7, v8, v9, v10, v11, v12] (.int x0 :: st) μ = m_G 156 247 [v0, v1, v2, v3, v4, v5, v6, v7, v8, .int x0, v10, v11, v12] st μ := g_istore (i := 9) (by decide +kernel) (Nat.le_of_ble_eq_true rfl) rfl
theorem i156_247 : m_G 156 247 [v0, v1, v2, v3, v4, v5, v6, v7, v8, v9, .int x0, v11, v12] st μ = m_G 156 250 [v0, v1, v2, v3, v4, v5, v6, v7, v8, v9, .int (x0 + 1), v11, v12] st μ := g_iinc (i := 10) (n := 1) (by decide +kernel) rfl (by decide) rfl
theorem i156_250 : m_G 156 250 L st μ = m_G 156 165 L st μ := g_goto (off := -85) (by decide +kernel) (by decide)
theorem i156_253 : m_G 156 253 [v0, v1, v2, v3, .int x0, v5, v6, v7, v8, v9, v10, v11, v12] st μ = m_G 156 255 [v0, v1, v2, v3, .int x0, v5, v6, v7, v8, v9, v10, v11, v12] (.int x0 :: st) μ := g_iload (i := 4) (by decide +kernel) rfl
theorem i156_255 : m_G 156 255 L (.int x0 :: st) μ = if x0 = 0 then m_G 156 258 L st μ else m_G 156 263 L st μ := g_ifne (off := 8) (by decide +kernel) (by decide)
theorem i156_258 : m_G 156 258 [v0, v1, v2, v3, v4, v5, v6, .int x0, v8, v9, v10, v11, v12] st μ = m_G 156 260 [v0, v1, v2, v3, v4, v5, v6, .int x0, v8, v9, v10, v11, v12] (.int x0 :: st) μ := g_iload (i := 7) (by decide +kernel) rfl
theorem i156_260 : m_G 156 260 L st μ = m_G 156 317 L st μ := g_goto (off := 57) (by decide +kernel) (by decide)
theorem i156_263 : m_G 156 263 [v0, v1, v2, v3, .int x0, v5, v6, v7, v8, v9, v10, v11, v12] st μ = m_G 156 265 [v0, v1, v2, v3, .int x0, v5, v6, v7, v8, v9, v10, v11, v12] (.int x0 :: st) μ := g_iload (i := 4) (by decide +kernel) rfl
theorem i156_265 : m_G 156 265 L st μ = m_G 156 266 L (.int 1 :: st) μ := g_iconst (n := 1) (by decide +kernel) (by decide)
theorem i156_266 : m_G 156 266 L (.int x1 :: .int x0 :: st) μ = if x0 = x1 then m_G 156 269 L st μ else m_G 156 277 L st μ := g_cmpne (off := 11) (by decide +kernel) (by decide)
theorem i156_269 : m_G 156 269 [v0, v1, v2, v3, v4, v5, .int x0, v7, v8, v9, v10, v11, v12] st μ = m_G 156 271 [v0, v1, v2, v3, v4, v5, .int x0, v7, v8, v9, v10, v11, v12] (.int x0 :: st) μ := g_iload (i := 6) (by decide +kernel) rfl
theorem i156_271 : m_G 156 271 L (.int x0 :: []) μ = b_c (m_D 135 [.int x0] μ) 156 274 L [] := g_stat (i := 195) (n := 1) (by decide +kernel) (by decide +kernel) (by decide) (x_call_ok (ws := [1]) (Nat.le_of_ble_eq_true rfl) rfl (by decide +kernel) rfl (by decide +kernel) rfl rfl)
theorem i156_274 : m_G 156 274 L st μ = m_G 156 317 L st μ := g_goto (off := 43) (by decide +kernel) (by decide)
theorem i156_277 : m_G 156 277 [v0, v1, v2, v3, .int x0, v5, v6, v7, v8, v9, v10, v11, v12] st μ = m_G 156 279 [v0, v1, v2, v3, .int x0, v5, v6, v7, v8, v9, v10, v11, v12] (.int x0 :: st) μ := g_iload (i := 4) (by decide +kernel) rfl
theorem i156_279 : m_G 156 279 L st μ = m_G 156 280 L (.int 2 :: st) μ := g_iconst (n := 2) (by decide +kernel) (by decide)
theorem i156_280 : m_G 156 280 L (.int x1 :: .int x0 :: st) μ = if x0 = x1 then m_G 156 283 L st μ else m_G 156 296 L st μ := g_cmpne (off := 16) (by decide +kernel) (by decide)
theorem i156_283 : m_G 156 283 [v0, v1, v2, v3, v4, v5, v6, v7, v8, .int x0, v10, v11, v12] st μ = m_G 156 285 [v0, v1, v2, v3, v4, v5, v6, v7, v8, .int x0, v10, v11, v12] (.int x0 :: st) μ := g_iload (i := 9) (by decide +kernel) rfl
theorem i156_285 : m_G 156 285 L (.int x0 :: st) μ = if x0 = 0 then m_G 156 292 L st μ else m_G 156 288 L st μ := g_ifeq (off := 7) (by decide +kernel) (by decide)
theorem i156_288 : m_G 156 288 L st μ = m_G 156 289 L (.int 1 :: st) μ := g_iconst (n := 1) (by decide +kernel) (by decide)
theorem i156_289 : m_G 156 289 L st μ = m_G 156 317 L st μ := g_goto (off := 28) (by decide +kernel) (by decide)
theorem i156_292 : m_G 156 292 L st μ = m_G 156 293 L (.int 0 :: st) μ := g_iconst (n := 0) (by decide +kernel) (by decide)
theorem i156_293 : m_G 156 293 L st μ = m_G 156 317 L st μ := g_goto (off := 24) (by decide +kernel) (by decide)
theorem i156_296 : m_G 156 296 [v0, v1, v2, v3, .int x0, v5, v6, v7, v8, v9, v10, v11, v12] st μ = m_G 156 298 [v0, v1, v2, v3, .int x0, v5, v6, v7, v8, v9, v10, v11, v12] (.int x0 :: st) μ := g_iload (i := 4) (by decide +kernel) rfl
theorem i156_298 : m_G 156 298 L st μ = m_G 156 299 L (.int 3 :: st) μ := g_iconst (n := 3) (by decide +kernel) (by decide)
theorem i156_299 : m_G 156 299 L (.int x1 :: .int x0 :: st) μ = if x0 = x1 then m_G 156 302 L st μ else m_G 156 307 L st μ := g_cmpne (off := 8) (by decide +kernel) (by decide)
theorem i156_302 : m_G 156 302 [v0, v1, v2, v3, v4, v5, v6, v7, .int x0, v9, v10, v11, v12] st μ = m_G 156 304 [v0, v1, v2, v3, v4, v5, v6, v7, .int x0, v9, v10, v11, v12] (.int x0 :: st) μ := g_iload (i := 8) (by decide +kernel) rfl
theorem i156_304 : m_G 156 304 L st μ = m_G 156 317 L st μ := g_goto (off := 13) (by decide +kernel) (by decide)
theorem i156_307 : m_G 156 307 [v0, v1, v2, v3, v4, v5, .int x0, v7, v8, v9, v10, v11, v12] st μ = m_G 156 309 [v0, v1, v2, v3, v4, v5, .int x0, v7, v8, v9, v10, v11, v12] (.int x0 :: st) μ := g_iload (i := 6) (by decide +kernel) rfl
theorem i156_309 : m_G 156 309 [v0, v1, v2, v3, .int x0, v5, v6, v7, v8, v9, v10, v11, v12] st μ = m_G 156 311 [v0, v1, v2, v3, .int x0, v5, v6, v7, v8, v9, v10, v11, v12] (.int x0 :: st) μ := g_iload (i := 4) (by decide +kernel) rfl
theorem i156_311 : m_G 156 311 L st μ = m_G 156 313 L (.int 10 :: st) μ := g_bipush (n := 10) (by decide +kernel) (by decide)
theorem i156_313 : m_G 156 313 L (.int x1 :: .int x0 :: st) μ = m_G 156 314 L (.int (x0 - x1) :: st) μ := g_isub (by decide +kernel)
theorem i156_314 : m_G 156 314 L (.int x1 :: .int x0 :: []) μ = b_c (m_D 136 [.int x0, .int x1] μ) 156 317 L [] := g_stat (i := 201) (n := 2) (by decide +kernel) (by decide +kernel) (by decide) (x_call_ok (ws := [1, 1]) (Nat.le_of_ble_eq_true rfl) rfl (by decide +kernel) rfl (by decide +kernel) rfl rfl)
theorem i156_317 : m_G 156 317 L [.int x0] μ = some (some (.int x0), μ) := g_ireti (by decide +kernel) (by decide)
theorem D156 : m_D 156 [.ref a0, .int x0, .int x1, .int x2, .int x3] μ = m_G 156 0 [.ref a0, .int x0, .int x1, .int x2, .int x3, m_d, m_d, m_d, m_d, m_d, m_d, m_d, m_d] [] μ := d_def (by decide) rfl
theorem i157_0 : m_G 157 0 L st μ = m_G 157 1 L (.int 0 :: st) μ := g_iconst (n := 0) (by decide +kernel) (by decide)
theorem i157_1 : m_G 157 1 [v0, v1, v2, v3, v4, v5] (.int x0 :: st) μ = m_G 157 3 [v0, v1, v2, v3, .int x0, v5] st μ := g_istore (i := 4) (by decide +kernel) (Nat.le_of_ble_eq_true rfl) rfl
theorem i157_3 : m_G 157 3 L st μ = m_G 157 4 L (.int 0 :: st) μ := g_iconst (n := 0) (by decide +kernel) (by decide)
theorem i157_4 : m_G 157 4 [v0, v1, v2, v3, v4, v5] (.int x0 :: st) μ = m_G 157 6 [v0, v1, v2, v3, v4, .int x0] st μ := g_istore (i := 5) (by decide +kernel) (Nat.le_of_ble_eq_true rfl) rfl
theorem i157_6 : m_G 157 6 [v0, v1, v2, v3, v4, .int x0] st μ = m_G 157 8 [v0, v1, v2, v3, v4, .int x0] (.int x0 :: st) μ := g_iload (i := 5) (by decide +kernel) rfl
theorem i157_8 : m_G 157 8 [.ref a0, v1, v2, v3, v4, v5] st μ = m_G 157 9 [.ref a0, v1, v2, v3, v4, v5] (.ref a0 :: st) μ := g_aload_n (i := 0) (by decide +kernel) rfl
theorem i157_9 : m_G 157 9 L (.ref a0 :: st) μ = b_v (m_gf μ a0 9 1) 157 12 L st μ := g_getf (i := 7) (by decide +kernel) (by decide +kernel)
theorem i157_12 : m_G 157 12 [v0, .int x0, v2, v3, v4, v5] st μ = m_G 157 13 [v0, .int x0, v2, v3, v4, v5] (.int x0 :: st) μ := g_iload_n (i := 1) (by decide +kernel) rfl
theorem i157_13 : m_G 157 13 L (.int x0 :: .ref a0 :: st) μ = b_i (m_ga μ a0 x0) 157 14 L st μ := g_iald (by decide +kernel)
theorem i157_14 : m_G 157 14 L (.int x1 :: .int x0 :: st) μ = if x0 < x1 then m_G 157 17 L st μ else m_G 157 48 L st μ := g_cmpge (off := 34) (by decide +kernel) (by decide)
theorem i157_17 : m_G 157 17 [.ref a0, v1, v2, v3, v4, v5] st μ = m_G 157 18 [.ref a0, v1, v2, v3, v4, v5] (.ref a0 :: st) μ := g_aload_n (i := 0) (by decide +kernel) rfl
theorem i157_18 : m_G 157 18 L (.ref a0 :: st) μ = b_v (m_gf μ a0 9 4) 157 21 L st μ := g_getf (i := 19) (by decide +kernel) (by decide +kernel)
theorem i157_21 : m_G 157 21 L st μ = m_G 157 23 L (.int 24 :: st) μ := g_bipush (n := 24) (by decide +kernel) (by decide)
theorem i157_23 : m_G 157 23 [v0, .int x0, v2, v3, v4, v5] st μ = m_G 157 24 [v0, .int x0, v2, v3, v4, v5] (.int x0 :: st) μ := g_iload_n (i := 1) (by decide +kernel) rfl
theorem i157_24 : m_G 157 24 L (.int x1 :: .int x0 :: st) μ = m_G 157 25 L (.int (x0 * x1) :: st) μ := g_imul (by decide +kernel)
theorem i157_25 : m_G 157 25 [v0, v1, v2, v3, v4, .int x0] st μ = m_G 157 27 [v0, v1, v2, v3, v4, .int x0] (.int x0 :: st) μ := g_iload (i := 5) (by decide +kernel) rfl
theorem i157_27 : m_G 157 27 L (.int x1 :: .int x0 :: st) μ = m_G 157 28 L (.int (x0 + x1) :: st) μ := g_iadd (by decide +kernel)
theorem i157_28 : m_G 157 28 L (.int x0 :: .ref a0 :: st) μ = b_i (m_ga μ a0 x0) 157 29 L st μ := g_iald (by decide +kernel)
theorem i157_29 : m_G 157 29 [v0, v1, .int x0, v3, v4, v5] st μ = m_G 157 30 [v0, v1, .int x0, v3, v4, v5] (.int x0 :: st) μ := g_iload_n (i := 2) (by decide +kernel) rfl
theorem i157_30 : m_G 157 30 L (.int x1 :: .int x0 :: st) μ = if x0 = x1 then m_G 157 33 L st μ else m_G 157 42 L st μ := g_cmpne (off := 12) (by decide +kernel) (by decide)
theorem i157_33 : m_G 157 33 [v0, v1, v2, .ref a0, v4, v5] st μ = m_G 157 34 [v0, v1, v2, .ref a0, v4, v5] (.ref a0 :: st) μ := g_aload_n (i := 3) (by decide +kernel) rfl
theorem i157_34 : m_G 157 34 [v0, v1, v2, v3, .int x0, v5] st μ = m_G 157 36 [v0, v1, v2, v3, .int x0, v5] (.int x0 :: st) μ := g_iload (i := 4) (by decide +kernel) rfl
theorem i157_36 : m_G 157 36 [v0, v1, v2, v3, v4, .int x0] st μ = m_G 157 38 [v0, v1, v2, v3, v4, .int x0] (.int x0 :: st) μ := g_iload (i := 5) (by decide +kernel) rfl
theorem i157_38 : m_G 157 38 L (.int x1 :: .int x0 :: .ref a0 :: st) μ = b_m (m_pa μ a0 x0 x1) 157 39 L st := g_iast (by decide +kernel)
theorem i157_39 : m_G 157 39 [v0, v1, v2, v3, .int x0, v5] st μ = m_G 157 42 [v0, v1, v2, v3, .int (x0 + 1), v5] st μ := g_iinc (i := 4) (n := 1) (by decide +kernel) rfl (by decide) rfl
theorem i157_42 : m_G 157 42 [v0, v1, v2, v3, v4, .int x0] st μ = m_G 157 45 [v0, v1, v2, v3, v4, .int (x0 + 1)] st μ := g_iinc (i := 5) (n := 1) (by decide +kernel) rfl (by decide) rfl
theorem i157_45 : m_G 157 45 L st μ = m_G 157 6 L st μ := g_goto (off := -39) (by decide +kernel) (by decide)
theorem i157_48 : m_G 157 48 [v0, v1, v2, v3, .int x0, v5] st μ = m_G 157 50 [v0, v1, v2, v3, .int x0, v5] (.int x0 :: st) μ := g_iload (i := 4) (by decide +kernel) rfl
theorem i157_50 : m_G 157 50 L [.int x0] μ = some (some (.int x0), μ) := g_ireti (by decide +kernel) (by decide)
theorem D157 : m_D 157 [.ref a0, .int x0, .int x1, .ref a3] μ = m_G 157 0 [.ref a0, .int x0, .int x1, .ref a3, m_d, m_d] [] μ := d_def (by decide) rfl
theorem i158_0 : m_G 158 0 [.ref a0, v1, v2, v3, v4, v5, v6, v7, v8, v9, v10, v11, v12] st μ = m_G 158 1 [.ref a0, v1, v2, v3, v4, v5, v6, v7, v8, v9, v10, v11, v12] (.ref a0 :: st) μ := g_aload_n (i := 0) (by decide +kernel) rfl
theorem i158_1 : m_G 158 1 [v0, .int x0, v2, v3, v4, v5, v6, v7, v8, v9, v10, v11, v12] st μ = m_G 158 2 [v0, .int x0, v2, v3, v4, v5, v6, v7, v8, v9, v10, v11, v12] (.int x0 :: st) μ := g_iload_n (i := 1) (by decide +kernel) rfl
theorem i158_2 : m_G 158 2 [v0, v1, .int x0, v3, v4, v5, v6, v7, v8, v9, v10, v11, v12] st μ = m_G 158 3 [v0, v1, .int x0, v3, v4, v5, v6, v7, v8, v9, v10, v11, v12] (.int x0 :: st) μ := g_iload_n (i := 2) (by decide +kernel) rfl
theorem i158_3 : m_G 158 3 [.ref a0, v1, v2, v3, v4, v5, v6, v7, v8, v9, v10, v11, v12] st μ = m_G 158 4 [.ref a0, v1, v2, v3, v4, v5, v6, v7, v8, v9, v10, v11, v12] (.ref a0 :: st) μ := g_aload_n (i := 0) (by decide +kernel) rfl
theorem i158_4 : m_G 158 4 L (.ref a0 :: st) μ = b_v (m_gf μ a0 9 35) 158 7 L st μ := g_getf (i := 89) (by decide +kernel) (by decide +kernel)
theorem i158_7 (ho : m_oc μ a0 = some 9) : m_G 158 7 L (.ref a3 :: .int x1 :: .int x0 :: .ref a0 :: []) μ = b_c (m_D 157 [.ref a0, .int x0, .int x1, .ref a3] μ) 158 10 L [] := g_virt (i := 259) (n := 3) (a := a0) (c := 9) (l := [(9, 157)]) (by decide +kernel) (by decide +kernel) rfl rfl (x_call_ok (ws := [1, 1, 1, 1]) (Nat.le_of_ble_eq_true rfl) rfl (by decide +kernel) rfl (by decide +kernel) rfl rfl) ho
theorem i158_10 : m_G 158 10 [v0, v1, v2, v3, v4, v5, v6, v7, v8, v9, v10, v11, v12] (.int x0 :: st) μ = m_G 158 12 [v0, v1, v2, v3, v4, .int x0, v6, v7, v8, v9, v10, v11, v12] st μ := g_istore (i := 5) (by decide +kernel) (Nat.le_of_ble_eq_true rfl) rfl
theorem i158_12 : m_G 158 12 [.ref a0, v1, v2, v3, v4, v5, v6, v7, v8, v9, v10, v11, v12] st μ = m_G 158 13 [.ref a0, v1, v2, v3, v4, v5, v6, v7, v8, v9, v10, v11, v12] (.ref a0 :: st) μ := g_aload_n (i := 0) (by decide +kernel) rfl
theorem i158_13 : m_G 158 13 [v0, v1, v2, .int x0, v4, v5, v6, v7, v8, v9, v10, v11, v12] st μ = m_G 158 14 [v0, v1, v2, .int x0, v4, v5, v6, v7, v8, v9, v10, v11, v12] (.int x0 :: st) μ := g_iload_n (i := 3) (by decide +kernel) rfl
theorem i158_14 : m_G 158 14 [v0, v1, v2, v3, .int x0, v5, v6, v7, v8, v9, v10, v11, v12] st μ = m_G 158 16 [v0, v1, v2, v3, .int x0, v5, v6, v7, v8, v9, v10, v11, v12] (.int x0 :: st) μ := g_iload (i := 4) (by decide +kernel) rfl
theorem i158_16 : m_G 158 16 [.ref a0, v1, v2, v3, v4, v5, v6, v7, v8, v9, v10, v11, v12] st μ = m_G 158 17 [.ref a0, v1, v2, v3, v4, v5, v6, v7, v8, v9, v10, v11, v12] (.ref a0 :: st) μ := g_aload_n (i := 0) (by decide +kernel) rfl
theorem i158_17 : m_G 158 17 L (.ref a0 :: st) μ = b_v (m_gf μ a0 9 36) 158 20 L st μ := g_getf (i := 92) (by decide +kernel) (by decide +kernel)
theorem i158_20 (ho : m_oc μ a0 = some 9) : m_G 158 20 L (.ref a3 :: .int x1 :: .int x0 :: .ref a0 :: []) μ = b_c (m_D 157 [.ref a0, .int x0, .int x1, .ref a3] μ) 158 23 L [] := g_virt (i := 259) (n := 3) (a := a0) (c := 9) (l := [(9, 157)]) (by decide +kernel) (by decide +kernel) rfl rfl (x_call_ok (ws := [1, 1, 1, 1]) (Nat.le_of_ble_eq_true rfl) rfl (by decide +kernel) rfl (by decide +kernel) rfl rfl) ho
theorem i158_23 : m_G 158 23 [v0, v1, v2, v3, v4, v5, v6, v7, v8, v9, v10, v11, v12] (.int x0 :: st) μ = m_G 158 25 [v0, v1, v2, v3, v4, v5, .int x0, v7, v8, v9, v10, v11, v12] st μ := g_istore (i := 6) (by decide +kernel) (Nat.le_of_ble_eq_true rfl) rfl
theorem i158_25 : m_G 158 25 L st μ = m_G 158 26 L (.int 0 :: st) μ := g_iconst (n := 0) (by decide +kernel) (by decide)
theorem i158_26 : m_G 158 26 [v0, v1, v2, v3, v4, v5, v6, v7, v8, v9, v10, v11, v12] (.int x0 :: st) μ = m_G 158 28 [v0, v1, v2, v3, v4, v5, v6, .int x0, v8, v9, v10, v11, v12] st μ := g_istore (i := 7) (by decide +kernel) (Nat.le_of_ble_eq_true rfl) rfl
theorem i158_28 : m_G 158 28 [v0, v1, v2, v3, v4, v5, v6, .int x0, v8, v9, v10, v11, v12] st μ = m_G 158 30 [v0, v1, v2, v3, v4, v5, v6, .int x0, v8, v9, v10, v11, v12] (.int x0 :: st) μ := g_iload (i := 7) (by decide +kernel) rfl
theorem i158_30 : m_G 158 30 [v0, v1, v2, v3, v4, .int x0, v6, v7, v8, v9, v10, v11, v12] st μ = m_G 158 32 [v0, v1, v2, v3, v4, .int x0, v6, v7, v8, v9, v10, v11, v12] (.int x0 :: st) μ := g_iload (i := 5) (by decide +kernel) rfl
theorem i158_32 : m_G 158 32 L (.int x1 :: .int x0 :: st) μ = if x1 < x0 then m_G 158 198 L st μ else m_G 158 35 L st μ := g_cmpgt (off := 166) (by decide +kernel) (by decide)
theorem i158_35 : m_G 158 35 L st μ = m_G 158 36 L (.int 0 :: st) μ := g_iconst (n := 0) (by decide +kernel) (by decide)
theorem i158_36 : m_G 158 36 [v0, v1, v2, v3, v4, v5, v6, v7, v8, v9, v10, v11, v12] (.int x0 :: st) μ = m_G 158 38 [v0, v1, v2, v3, v4, v5, v6, v7, .int x0, v9, v10, v11, v12] st μ := g_istore (i := 8) (by decide +kernel) (Nat.le_of_ble_eq_true rfl) rfl
theorem i158_38 : m_G 158 38 [v0, v1, v2, v3, v4, v5, v6, v7, .int x0, v9, v10, v11, v12] st μ = m_G 158 40 [v0, v1, v2, v3, v4, v5, v6, v7, .int x0, v9, v10, v11, v12] (.int x0 :: st) μ := g_iload (i := 8) (by decide +kernel) rfl
theorem i158_40 : m_G 158 40 [v0, v1, v2, v3, v4, v5, .int x0, v7, v8, v9, v10, v11, v12] st μ = m_G 158 42 [v0, v1, v2, v3, v4, v5, .int x0, v7, v8, v9, v10, v11, v12] (.int x0 :: st) μ := g_iload (i := 6) (by decide +kernel) rfl
theorem i158_42 : m_G 158 42 L (.int x1 :: .int x0 :: st) μ = if x1 < x0 then m_G 158 192 L st μ else m_G 158 45 L st μ := g_cmpgt (off := 150) (by decide +kernel) (by decide)
theorem i158_45 : m_G 158 45 L st μ = m_G 158 46 L (.int 0 :: st) μ := g_iconst (n := 0) (by decide +kernel) (by decide)
theorem i158_46 : m_G 158 46 [v0, v1, v2, v3, v4, v5, v6, v7, v8, v9, v10, v11, v12] (.int x0 :: st) μ = m_G 158 48 [v0, v1, v2, v3, v4, v5, v6, v7, v8, .int x0, v10, v11, v12] st μ := g_istore (i := 9) (by decide +kernel) (Nat.le_of_ble_eq_true rfl) rfl
theorem i158_48 : m_G 158 48 [v0, v1, v2, v3, v4, v5, v6, .int x0, v8, v9, v10, v11, v12] st μ = m_G 158 50 [v0, v1, v2, v3, v4, v5, v6, .int x0, v8, v9, v10, v11, v12] (.int x0 :: st) μ := g_iload (i := 7) (by decide +kernel) rfl
theorem i158_50 : m_G 158 50 L (.int x0 :: st) μ = if x0 ≤ 0 then m_G 158 171 L st μ else m_G 158 53 L st μ := g_ifle (off := 121) (by decide +kernel) (by decide)
theorem i158_53 : m_G 158 53 [v0, v1, v2, v3, v4, v5, v6, v7, .int x0, v9, v10, v11, v12] st μ = m_G 158 55 [v0, v1, v2, v3, v4, v5, v6, v7, .int x0, v9, v10, v11, v12] (.int x0 :: st) μ := g_iload (i := 8) (by decide +kernel) rfl
theorem i158_55 : m_G 158 55 L (.int x0 :: st) μ = if x0 ≤ 0 then m_G 158 171 L st μ else m_G 158 58 L st μ := g_ifle (off := 116) (by decide +kernel) (by decide)
theorem i158_58 : m_G 158 58 [.ref a0, v1, v2, v3, v4, v5, v6, v7, v8, v9, v10, v11, v12] st μ = m_G 158 59 [.ref a0, v1, v2, v3, v4, v5, v6, v7, v8, v9, v10, v11, v12] (.ref a0 :: st) μ := g_aload_n (i := 0) (by decide +kernel) rfl
theorem i158_59 : m_G 158 59 L (.ref a0 :: st) μ = b_v (m_gf μ a0 9 34) 158 62 L st μ := g_getf (i := 86) (by decide +kernel) (by decide +kernel)
theorem i158_62 : m_G 158 62 L st μ = m_G 158 64 L (.int 25 :: st) μ := g_bipush (n := 25) (by decide +kernel) (by decide)
theorem i158_64 : m_G 158 64 [v0, v1, v2, v3, v4, v5, v6, .int x0, v8, v9, v10, v11, v12] st μ = m_G 158 66 [v0, v1, v2, v3, v4, v5, v6, .int x0, v8, v9, v10, v11, v12] (.int x0 :: st) μ := g_iload (i := 7) (by decide +kernel) rfl
theorem i158_66 : m_G 158 66 L st μ = m_G 158 67 L (.int 1 :: st) μ := g_iconst (n := 1) (by decide +kernel) (by decide)
theorem i158_67 : m_G 158 67 L (.int x1 :: .int x0 :: st) μ = m_G 158 68 L (.int (x0 - x1) :: st) μ := g_isub (by decide +kernel)
theorem i158_68 : m_G 158 68 L (.int x1 :: .int x0 :: st) μ = m_G 158 69 L (.int (x0 * x1) :: st) μ := g_imul (by decide +kernel)
theorem i158_69 : m_G 158 69 [v0, v1, v2, v3, v4, v5, v6, v7, .int x0, v9, v10, v11, v12] st μ = m_G 158 71 [v0, v1, v2, v3, v4, v5, v6, v7, .int x0, v9, v10, v11, v12] (.int x0 :: st) μ := g_iload (i := 8) (by decide +kernel) rfl
theorem i158_71 : m_G 158 71 L (.int x1 :: .int x0 :: st) μ = m_G 158 72 L (.int (x0 + x1) :: st) μ := g_iadd (by decide +kernel)
theorem i158_72 : m_G 158 72 L st μ = m_G 158 73 L (.int 1 :: st) μ := g_iconst (n := 1) (by decide +kernel) (by decide)
theorem i158_73 : m_G 158 73 L (.int x1 :: .int x0 :: st) μ = m_G 158 74 L (.int (x0 - x1) :: st) μ := g_isub (by decide +kernel)
theorem i158_74 : m_G 158 74 L (.int x0 :: .ref a0 :: st) μ = b_i (m_ga μ a0 x0) 158 75 L st μ := g_iald (by decide +kernel)
theorem i158_75 : m_G 158 75 [.ref a0, v1, v2, v3, v4, v5, v6, v7, v8, v9, v10, v11, v12] st μ = m_G 158 76 [.ref a0, v1, v2, v3, v4, v5, v6, v7, v8, v9, v10, v11, v12] (.ref a0 :: st) μ := g_aload_n (i := 0) (by decide +kernel) rfl
theorem i158_76 : m_G 158 76 L (.ref a0 :: st) μ = b_v (m_gf μ a0 9 33) 158 79 L st μ := g_getf (i := 83) (by decide +kernel) (by decide +kernel)
theorem i158_79 : m_G 158 79 L st μ = m_G 158 81 L (.int 24 :: st) μ := g_bipush (n := 24) (by decide +kernel) (by decide)
theorem i158_81 : m_G 158 81 [.ref a0, v1, v2, v3, v4, v5, v6, v7, v8, v9, v10, v11, v12] st μ = m_G 158 82 [.ref a0, v1, v2, v3, v4, v5, v6, v7, v8, v9, v10, v11, v12] (.ref a0 :: st) μ := g_aload_n (i := 0) (by decide +kernel) rfl
theorem i158_82 : m_G 158 82 L (.ref a0 :: st) μ = b_v (m_gf μ a0 9 35) 158 85 L st μ := g_getf (i := 89) (by decide +kernel) (by decide +kernel)
theorem i158_85 : m_G 158 85 [v0, v1, v2, v3, v4, v5, v6, .int x0, v8, v9, v10, v11, v12] st μ = m_G 158 87 [v0, v1, v2, v3, v4, v5, v6, .int x0, v8, v9, v10, v11, v12] (.int x0 :: st) μ := g_iload (i := 7) (by decide +kernel) rfl
theorem i158_87 : m_G 158 87 L st μ = m_G 158 88 L (.int 1 :: st) μ := g_iconst (n := 1) (by decide +kernel) (by decide)
theorem i158_88 : m_G 158 88 L (.int x1 :: .int x0 :: st) μ = m_G 158 89 L (.int (x0 - x1) :: st) μ := g_isub (by decide +kernel)
theorem i158_89 : m_G 158 89 L (.int x0 :: .ref a0 :: st) μ = b_i (m_ga μ a0 x0) 158 90 L st μ := g_iald (by decide +kernel)
theorem i158_90 : m_G 158 90 L (.int x1 :: .int x0 :: st) μ = m_G 158 91 L (.int (x0 * x1) :: st) μ := g_imul (by decide +kernel)
theorem i158_91 : m_G 158 91 [.ref a0, v1, v2, v3, v4, v5, v6, v7, v8, v9, v10, v11, v12] st μ = m_G 158 92 [.ref a0, v1, v2, v3, v4, v5, v6, v7, v8, v9, v10, v11, v12] (.ref a0 :: st) μ := g_aload_n (i := 0) (by decide +kernel) rfl
theorem i158_92 : m_G 158 92 L (.ref a0 :: st) μ = b_v (m_gf μ a0 9 36) 158 95 L st μ := g_getf (i := 92) (by decide +kernel) (by decide +kernel)
theorem i158_95 : m_G 158 95 [v0, v1, v2, v3, v4, v5, v6, v7, .int x0, v9, v10, v11, v12] st μ = m_G 158 97 [v0, v1, v2, v3, v4, v5, v6, v7, .int x0, v9, v10, v11, v12] (.int x0 :: st) μ := g_iload (i := 8) (by decide +kernel) rfl
theorem i158_97 : m_G 158 97 L st μ = m_G 158 98 L (.int 1 :: st) μ := g_iconst (n := 1) (by decide +kernel) (by decide)
theorem i158_98 : m_G 158 98 L (.int x1 :: .int x0 :: st) μ = m_G 158 99 L (.int (x0 - x1) :: st) μ := g_isub (by decide +kernel)
theorem i158_99 : m_G 158 99 L (.int x0 :: .ref a0 :: st) μ = b_i (m_ga μ a0 x0) 158 100 L st μ := g_iald (by decide +kernel)
theorem i158_100 : m_G 158 100 L (.int x1 :: .int x0 :: st) μ = m_G 158 101 L (.int (x0 + x1) :: st) μ := g_iadd (by decide +kernel)
theorem i158_101 : m_G 158 101 L (.int x0 :: .ref a0 :: st) μ = b_i (m_ga μ a0 x0) 158 102 L st μ := g_iald (by decide +kernel)
theorem i158_102 : m_G 158 102 L (.int x1 :: .int x0 :: st) μ = m_G 158 103 L (.int (x0 + x1) :: st) μ := g_iadd (by decide +kernel)
theorem i158_103 : m_G 158 103 [v0, v1, v2, v3, v4, v5, v6, v7, v8, v9, v10, v11, v12] (.int x0 :: st) μ = m_G 158 105 [v0, v1, v2, v3, v4, v5, v6, v7, v8, v9, .int x0, v11, v12] st μ := g_istore (i := 10) (by decide +kernel) (Nat.le_of_ble_eq_true rfl) rfl
theorem i158_105 : m_G 158 105 [.ref a0, v1, v2, v3, v4, v5, v6, v7, v8, v9, v10, v11, v12] st μ = m_G 158 106 [.ref a0, v1, v2, v3, v4, v5, v6, v7, v8, v9, v10, v11, v12] (.ref a0 :: st) μ := g_aload_n (i := 0) (by decide +kernel) rfl
theorem i158_106 : m_G 158 106 L (.ref a0 :: st) μ = b_v (m_gf μ a0 9 34) 158 109 L st μ := g_getf (i := 86) (by decide +kernel) (by decide +kernel)
theorem i158_109 : m_G 158 109 L st μ = m_G 158 111 L (.int 25 :: st) μ := g_bipush (n := 25) (by decide +kernel) (by decide)
theorem i158_111 : m_G 158 111 [v0, v1, v2, v3, v4, v5, v6, .int x0, v8, v9, v10, v11, v12] st μ = m_G 158 113 [v0, v1, v2, v3, v4, v5, v6, .int x0, v8, v9, v10, v11, v12] (.int x0 :: st) μ := g_iload (i := 7) (by decide +kernel) rfl
theorem i158_113 : m_G 158 113 L st μ = m_G 158 114 L (.int 1 :: st) μ := g_iconst (n := 1) (by decide +kernel) (by decide)
theorem i158_114 : m_G 158 114 L (.int x1 :: .int x0 :: st) μ = m_G 158 115 L (.int (x0 - x1) :: st) μ := g_isub (by decide +kernel)
theorem i158_115 : m_G 158 115 L (.int x1 :: .int x0 :: st) μ = m_G 158 116 L (.int (x0 * x1) :: st) μ := g_imul (by decide +kernel)
theorem i158_116 : m_G 158 116 [v0, v1, v2, v3, v4, v5, v6, v7, .int x0, v9, v10, v11, v12] st μ = m_G 158 118 [v0, v1, v2, v3, v4, v5, v6, v7, .int x0, v9, v10, v11, v12] (.int x0 :: st) μ := g_iload (i := 8) (by decide +kernel) rfl
theorem i158_118 : m_G 158 118 L (.int x1 :: .int x0 :: st) μ = m_G 158 119 L (.int (x0 + x1) :: st) μ := g_iadd (by decide +kernel)
theorem i158_119 : m_G 158 119 L (.int x0 :: .ref a0 :: st) μ = b_i (m_ga μ a0 x0) 158 120 L st μ := g_iald (by decide +kernel)
theorem i158_120 : m_G 158 120 [v0, v1, v2, v3, v4, v5, v6, v7, v8, v9, v10, v11, v12] (.int x0 :: st) μ = m_G 158 122 [v0, v1, v2, v3, v4, v5, v6, v7, v8, v9, v10, .int x0, v12] st μ := g_istore (i := 11) (by decide +kernel) (Nat.le_of_ble_eq_true rfl) rfl
theorem i158_122 : m_G 158 122 [.ref a0, v1, v2, v3, v4, v5, v6, v7, v8, v9, v10, v11, v12] st μ = m_G 158 123 [.ref a0, v1, v2, v3, v4, v5, v6, v7, v8, v9, v10, v11, v12] (.ref a0 :: st) μ := g_aload_n (i := 0) (by decide +kernel) rfl
theorem i158_123 : m_G 158 123 L (.ref a0 :: st) μ = b_v (m_gf μ a0 9 34) 158 126 L st μ := g_getf (i := 86) (by decide +kernel) (by decide +kernel)
theorem i158_126 : m_G 158 126 L st μ = m_G 158 128 L (.int 25 :: st) μ := g_bipush (n := 25) (by decide +kernel) (by decide)
theorem i158_128 : m_G 158 128 [v0, v1, v2, v3, v4, v5, v6, .int x0, v8, v9, v10, v11, v12] st μ = m_G 158 130 [v0, v1, v2, v3, v4, v5, v6, .int x0, v8, v9, v10, v11, v12] (.int x0 :: st) μ := g_iload (i := 7) (by decide +kernel) rfl
theorem i158_130 : m_G 158 130 L (.int x1 :: .int x0 :: st) μ = m_G 158 131 L (.int (x0 * x1) :: st) μ := g_imul (by decide +kernel)
theorem i158_131 : m_G 158 131 [v0, v1, v2, v3, v4, v5, v6, v7, .int x0, v9, v10, v11, v12] st μ = m_G 158 133 [v0, v1, v2, v3, v4, v5, v6, v7, .int x0, v9, v10, v11, v12] (.int x0 :: st) μ := g_iload (i := 8) (by decide +kernel) rfl
theorem i158_133 : m_G 158 133 L (.int x1 :: .int x0 :: st) μ = m_G 158 134 L (.int (x0 + x1) :: st) μ := g_iadd (by decide +kernel)
theorem i158_134 : m_G 158 134 L st μ = m_G 158 135 L (.int 1 :: st) μ := g_iconst (n := 1) (by decide +kernel) (by decide)
theorem i158_135 : m_G 158 135 L (.int x1 :: .int x0 :: st) μ = m_G 158 136 L (.int (x0 - x1) :: st) μ := g_isub (by decide +kernel)
theorem i158_136 : m_G 158 136 L (.int x0 :: .ref a0 :: st) μ = b_i (m_ga μ a0 x0) 158 137 L st μ := g_iald (by decide +kernel)
theorem i158_137 : m_G 158 137 [v0, v1, v2, v3, v4, v5, v6, v7, v8, v9, v10, v11, v12] (.int x0 :: st) μ = m_G 158 139 [v0, v1, v2, v3, v4, v5, v6, v7, v8, v9, v10, v11, .int x0] st μ := g_istore (i := 12) (by decide +kernel) (Nat.le_of_ble_eq_true rfl) rfl
theorem i158_139 : m_G 158 139 [v0, v1, v2, v3, v4, v5, v6, v7, v8, v9, .int x0, v11, v12] st μ = m_G 158 141 [v0, v1, v2, v3, v4, v5, v6, v7, v8, v9, .int x0, v11, v12] (.int x0 :: st) μ := g_iload (i := 10) (by decide +kernel) rfl
theorem i158_141 : m_G 158 141 [v0, v1, v2, v3, v4, v5, v6, v7, v8, v9, v10, .int x0, v12] st μ = m_G 158 143 [v0, v1, v2, v3, v4, v5, v6, v7, v8, v9, v10, .int x0, v12] (.int x0 :: st) μ := g_iload (i := 11) (by decide +kernel) rfl
theorem i158_143 : m_G 158 143 L (.int x1 :: .int x0 :: st) μ = if x1 < x0 then m_G 158 146 L st μ else m_G 158 151 L st μ := g_cmple (off := 8) (by decide +kernel) (by decide)
theorem i158_146 : m_G 158 146 [v0, v1, v2, v3, v4, v5, v6, v7, v8, v9, .int x0, v11, v12] st μ = m_G 158 148 [v0, v1, v2, v3, v4, v5, v6, v7, v8, v9, .int x0, v11, v12] (.int x0 :: st) μ := g_iload (i := 10) (by decide +kernel) rfl
theorem i158_148 : m_G 158 148 L st μ = m_G 158 153 L st μ := g_goto (off := 5) (by decide +kernel) (by decide)
theorem i158_151 : m_G 158 151 [v0, v1, v2, v3, v4, v5, v6, v7, v8, v9, v10, .int x0, v12] st μ = m_G 158 153 [v0, v1, v2, v3, v4, v5, v6, v7, v8, v9, v10, .int x0, v12] (.int x0 :: st) μ := g_iload (i := 11) (by decide +kernel) rfl
theorem i158_153 : m_G 158 153 [v0, v1, v2, v3, v4, v5, v6, v7, v8, v9, v10, v11, v12] (.int x0 :: st) μ = m_G 158 155 [v0, v1, v2, v3, v4, v5, v6, v7, v8, .int x0, v10, v11, v12] st μ := g_istore (i := 9) (by decide +kernel) (Nat.le_of_ble_eq_true rfl) rfl
theorem i158_155 : m_G 158 155 [v0, v1, v2, v3, v4, v5, v6, v7, v8, v9, v10, v11, .int x0] st μ = m_G 158 157 [v0, v1, v2, v3, v4, v5, v6, v7, v8, v9, v10, v11, .int x0] (.int x0 :: st) μ := g_iload (i := 12) (by decide +kernel) rfl
theorem i158_157 : m_G 158 157 [v0, v1, v2, v3, v4, v5, v6, v7, v8, .int x0, v10, v11, v12] st μ = m_G 158 159 [v0, v1, v2, v3, v4, v5, v6, v7, v8, .int x0, v10, v11, v12] (.int x0 :: st) μ := g_iload (i := 9) (by decide +kernel) rfl
theorem i158_159 : m_G 158 159 L (.int x1 :: .int x0 :: st) μ = if x1 < x0 then m_G 158 162 L st μ else m_G 158 167 L st μ := g_cmple (off := 8) (by decide +kernel) (by decide)
theorem i158_162 : m_G 158 162 [v0, v1, v2, v3, v4, v5, v6, v7, v8, v9, v10, v11, .int x0] st μ = m_G 158 164 [v0, v1, v2, v3, v4, v5, v6, v7, v8, v9, v10, v11, .int x0] (.int x0 :: st) μ := g_iload (i := 12) (by decide +kernel) rfl
theorem i158_164 : m_G 158 164 L st μ = m_G 158 169 L st μ := g_goto (off := 5) (by decide +kernel) (by decide)
theorem i158_167 : m_G 158 167 [v0, v1, v2, v3, v4, v5, v6, v7, v8, .int x0, v10, v11, v12] st μ = m_G 158 169 [v0, v1, v2, v3, v4, v5, v6, v7, v8, .int x0, v10, v11, v12] (.int x0 :: st) μ := g_iload (i := 9) (by decide +kernel) rfl
theorem i158_169 : m_G 158 169 [v0, v1, v2, v3, v4, v5, v6, v7, v8, v9, v10, v11, v12] (.int x0 :: st) μ = m_G 158 171 [v0, v1, v2, v3, v4, v5, v6, v7, v8, .int x0, v10, v11, v12] st μ := g_istore (i := 9) (by decide +kernel) (Nat.le_of_ble_eq_true rfl) rfl
theorem i158_171 : m_G 158 171 [.ref a0, v1, v2, v3, v4, v5, v6, v7, v8, v9, v10, v11, v12] st μ = m_G 158 172 [.ref a0, v1, v2, v3, v4, v5, v6, v7, v8, v9, v10, v11, v12] (.ref a0 :: st) μ := g_aload_n (i := 0) (by decide +kernel) rfl
theorem i158_172 : m_G 158 172 L (.ref a0 :: st) μ = b_v (m_gf μ a0 9 34) 158 175 L st μ := g_getf (i := 86) (by decide +kernel) (by decide +kernel)
theorem i158_175 : m_G 158 175 L st μ = m_G 158 177 L (.int 25 :: st) μ := g_bipush (n := 25) (by decide +kernel) (by decide)
theorem i158_177 : m_G 158 177 [v0, v1, v2, v3, v4, v5, v6, .int x0, v8, v9, v10, v11, v12] st μ = m_G 158 179 [v0, v1, v2, v3, v4, v5, v6, .int x0, v8, v9, v10, v11, v12] (.int x0 :: st) μ := g_iload (i := 7) (by decide +kernel) rfl
theorem i158_179 : m_G 158 179 L (.int x1 :: .int x0 :: st) μ = m_G 158 180 L (.int (x0 * x1) :: st) μ := g_imul (by decide +kernel)
theorem i158_180 : m_G 158 180 [v0, v1, v2, v3, v4, v5, v6, v7, .int x0, v9, v10, v11, v12] st μ = m_G 158 182 [v0, v1, v2, v3, v4, v5, v6, v7, .int x0, v9, v10, v11, v12] (.int x0 :: st) μ := g_iload (i := 8) (by decide +kernel) rfl
theorem i158_182 : m_G 158 182 L (.int x1 :: .int x0 :: st) μ = m_G 158 183 L (.int (x0 + x1) :: st) μ := g_iadd (by decide +kernel)
theorem i158_183 : m_G 158 183 [v0, v1, v2, v3, v4, v5, v6, v7, v8, .int x0, v10, v11, v12] st μ = m_G 158 185 [v0, v1, v2, v3, v4, v5, v6, v7, v8, .int x0, v10, v11, v12] (.int x0 :: st) μ := g_iload (i := 9) (by decide +kernel) rfl
theorem i158_185 : m_G 158 185 L (.int x1 :: .int x0 :: .ref a0 :: st) μ = b_m (m_pa μ a0 x0 x1) 158 186 L st := g_iast (by decide +kernel)
theorem i158_186 : m_G 158 186 [v0, v1, v2, v3, v4, v5, v6, v7, .int x0, v9, v10, v11, v12] st μ = m_G 158 189 [v0, v1, v2, v3, v4, v5, v6, v7, .int (x0 + 1), v9, v10, v11, v12] st μ := g_iinc (i := 8) (n := 1) (by decide +kernel) rfl (by decide) rfl
theorem i158_189 : m_G 158 189 L st μ = m_G 158 38 L st μ := g_goto (off := -151) (by decide +kernel) (by decide)
theorem i158_192 : m_G 158 192 [v0, v1, v2, v3, v4, v5, v6, .int x0, v8, v9, v10, v11, v12] st μ = m_G 158 195 [v0, v1, v2, v3, v4, v5, v6, .int (x0 + 1), v8, v9, v10, v11, v12] st μ := g_iinc (i := 7) (n := 1) (by decide +kernel) rfl (by decide) rfl
theorem i158_195 : m_G 158 195 L st μ = m_G 158 28 L st μ := g_goto (off := -167) (by decide +kernel) (by decide)
theorem i158_198 : m_G 158 198 [.ref a0, v1, v2, v3, v4, v5, v6, v7, v8, v9, v10, v11, v12] st μ = m_G 158 199 [.ref a0, v1, v2, v3, v4, v5, v6, v7, v8, v9, v10, v11, v12] (.ref a0 :: st) μ := g_aload_n (i := 0) (by decide +kernel) rfl
theorem i158_199 : m_G 158 199 L (.ref a0 :: st) μ = b_v (m_gf μ a0 9 34) 158 202 L st μ := g_getf (i := 86) (by decide +kernel) (by decide +kernel)
theorem i158_202 : m_G 158 202 L st μ = m_G 158 204 L (.int 25 :: st) μ := g_bipush (n := 25) (by decide +kernel) (by decide)
theorem i158_204 : m_G 158 204 [v0, v1, v2, v3, v4, .int x0, v6, v7, v8, v9, v10, v11, v12] st μ = m_G 158 206 [v0, v1, v2, v3, v4, .int x0, v6, v7, v8, v9, v10, v11, v12] (.int x0 :: st) μ := g_iload (i := 5) (by decide +kernel) rfl
theorem i158_206 : m_G 158 206 L (.int x1 :: .int x0 :: st) μ = m_G 158 207 L (.int (x0 * x1) :: st) μ := g_imul (by decide +kernel)
theorem i158_207 : m_G 158 207 [v0, v1, v2, v3, v4, v5, .int x0, v7, v8, v9, v10, v11, v12] st μ = m_G 158 209 [v0, v1, v2, v3, v4, v5, .int x0, v7, v8, v9, v10, v11, v12] (.int x0 :: st) μ := g_iload (i := 6) (by decide +kernel) rfl
theorem i158_209 : m_G 158 209 L (.int x1 :: .int x0 :: st) μ = m_G 158 210 L (.int (x0 + x1) :: st) μ := g_iadd (by decide +kernel)
theorem i158_210 : m_G 158 210 L (.int x0 :: .ref a0 :: st) μ = b_i (m_ga μ a0 x0) 158 211 L st μ := g_iald (by decide +kernel)
theorem i158_211 : m_G 158 211 L [.int x0] μ = some (some (.int x0), μ) := g_ireti (by decide +kernel) (by decide)
theorem D158 : m_D 158 [.ref a0, .int x0, .int x1, .int x2, .int x3] μ = m_G 158 0 [.ref a0, .int x0, .int x1, .int x2, .int x3, m_d, m_d, m_d, m_d, m_d, m_d, m_d, m_d] [] μ := d_def (by decide) rfl
theorem i159_0 : m_G 159 0 [.ref a0, v1, v2, v3, v4, v5, v6] st μ = m_G 159 1 [.ref a0, v1, v2, v3, v4, v5, v6] (.ref a0 :: st) μ := g_aload_n (i := 0) (by decide +kernel) rfl
theorem i159_1 : m_G 159 1 L (.ref a0 :: st) μ = b_v (m_gf μ a0 9 1) 159 4 L st μ := g_getf (i := 7) (by decide +kernel) (by decide +kernel)
theorem i159_4 : m_G 159 4 [v0, .int x0, v2, v3, v4, v5, v6] st μ = m_G 159 5 [v0, .int x0, v2, v3, v4, v5, v6] (.int x0 :: st) μ := g_iload_n (i := 1) (by decide +kernel) rfl
theorem i159_5 : m_G 159 5 L (.int x0 :: .ref a0 :: st) μ = b_i (m_ga μ a0 x0) 159 6 L st μ := g_iald (by decide +kernel)
theorem i159_6 : m_G 159 6 L st μ = m_G 159 7 L (.int 1 :: st) μ := g_iconst (n := 1) (by decide +kernel) (by decide)
theorem i159_7 : m_G 159 7 L (.int x1 :: .int x0 :: st) μ = m_G 159 8 L (.int (x0 - x1) :: st) μ := g_isub (by decide +kernel)
theorem i159_8 : m_G 159 8 [v0, v1, v2, v3, v4, v5, v6] (.int x0 :: st) μ = m_G 159 9 [v0, v1, v2, .int x0, v4, v5, v6] st μ := g_istore_n (i := 3) (by decide +kernel) (Nat.le_of_ble_eq_true rfl) rfl
theorem i159_9 : m_G 159 9 [v0, v1, v2, .int x0, v4, v5, v6] st μ = m_G 159 10 [v0, v1, v2, .int x0, v4, v5, v6] (.int x0 :: st) μ := g_iload_n (i := 3) (by decide +kernel) rfl
theorem i159_10 : m_G 159 10 L (.int x0 :: st) μ = if x0 < 0 then m_G 159 141 L st μ else m_G 159 13 L st μ := g_iflt (off := 131) (by decide +kernel) (by decide)
theorem i159_13 : m_G 159 13 [.ref a0, v1, v2, v3, v4, v5, v6] st μ = m_G 159 14 [.ref a0, v1, v2, v3, v4, v5, v6] (.ref a0 :: st) μ := g_aload_n (i := 0) (by decide +kernel) rfl
theorem i159_14 : m_G 159 14 L (.ref a0 :: st) μ = b_v (m_gf μ a0 9 1) 159 17 L st μ := g_getf (i := 7) (by decide +kernel) (by decide +kernel)
theorem i159_17 : m_G 159 17 [v0, v1, .int x0, v3, v4, v5, v6] st μ = m_G 159 18 [v0, v1, .int x0, v3, v4, v5, v6] (.int x0 :: st) μ := g_iload_n (i := 2) (by decide +kernel) rfl
theorem i159_18 : m_G 159 18 L (.int x0 :: .ref a0 :: st) μ = b_i (m_ga μ a0 x0) 159 19 L st μ := g_iald (by decide +kernel)
theorem i159_19 : m_G 159 19 L st μ = m_G 159 20 L (.int 1 :: st) μ := g_iconst (n := 1) (by decide +kernel) (by decide)
theorem i159_20 : m_G 159 20 L (.int x1 :: .int x0 :: st) μ = m_G 159 21 L (.int (x0 - x1) :: st) μ := g_isub (by decide +kernel)
theorem i159_21 : m_G 159 21 [v0, v1, v2, v3, v4, v5, v6] (.int x0 :: st) μ = m_G 159 23 [v0, v1, v2, v3, .int x0, v5, v6] st μ := g_istore (i := 4) (by decide +kernel) (Nat.le_of_ble_eq_true rfl) rfl
theorem i159_23 : m_G 159 23 [v0, v1, v2, v3, .int x0, v5, v6] st μ = m_G 159 25 [v0, v1, v2, v3, .int x0, v5, v6] (.int x0 :: st) μ := g_iload (i := 4) (by decide +kernel) rfl
theorem i159_25 : m_G 159 25 L (.int x0 :: st) μ = if x0 < 0 then m_G 159 135 L st μ else m_G 159 28 L st μ := g_iflt (off := 110) (by decide +kernel) (by decide)
theorem i159_28 : m_G 159 28 [.ref a0, v1, v2, v3, v4, v5, v6] st μ = m_G 159 29 [.ref a0, v1, v2, v3, v4, v5, v6] (.ref a0 :: st) μ := g_aload_n (i := 0) (by decide +kernel) rfl
theorem i159_29 : m_G 159 29 L (.ref a0 :: st) μ = b_v (m_gf μ a0 9 2) 159 32 L st μ := g_getf (i := 13) (by decide +kernel) (by decide +kernel)
theorem i159_32 : m_G 159 32 L st μ = m_G 159 34 L (.int 24 :: st) μ := g_bipush (n := 24) (by decide +kernel) (by decide)
theorem i159_34 : m_G 159 34 [v0, .int x0, v2, v3, v4, v5, v6] st μ = m_G 159 35 [v0, .int x0, v2, v3, v4, v5, v6] (.int x0 :: st) μ := g_iload_n (i := 1) (by decide +kernel) rfl
theorem i159_35 : m_G 159 35 L (.int x1 :: .int x0 :: st) μ = m_G 159 36 L (.int (x0 * x1) :: st) μ := g_imul (by decide +kernel)
theorem i159_36 : m_G 159 36 [v0, v1, v2, .int x0, v4, v5, v6] st μ = m_G 159 37 [v0, v1, v2, .int x0, v4, v5, v6] (.int x0 :: st) μ := g_iload_n (i := 3) (by decide +kernel) rfl
theorem i159_37 : m_G 159 37 L (.int x1 :: .int x0 :: st) μ = m_G 159 38 L (.int (x0 + x1) :: st) μ := g_iadd (by decide +kernel)
theorem i159_38 : m_G 159 38 L (.int x0 :: .ref a0 :: st) μ = b_i (m_ga μ a0 x0) 159 39 L st μ := g_iald (by decide +kernel)
theorem i159_39 : m_G 159 39 [.ref a0, v1, v2, v3, v4, v5, v6] st μ = m_G 159 40 [.ref a0, v1, v2, v3, v4, v5, v6] (.ref a0 :: st) μ := g_aload_n (i := 0) (by decide +kernel) rfl
theorem i159_40 : m_G 159 40 L (.ref a0 :: st) μ = b_v (m_gf μ a0 9 2) 159 43 L st μ := g_getf (i := 13) (by decide +kernel) (by decide +kernel)
theorem i159_43 : m_G 159 43 L st μ = m_G 159 45 L (.int 24 :: st) μ := g_bipush (n := 24) (by decide +kernel) (by decide)
theorem i159_45 : m_G 159 45 [v0, v1, .int x0, v3, v4, v5, v6] st μ = m_G 159 46 [v0, v1, .int x0, v3, v4, v5, v6] (.int x0 :: st) μ := g_iload_n (i := 2) (by decide +kernel) rfl
theorem i159_46 : m_G 159 46 L (.int x1 :: .int x0 :: st) μ = m_G 159 47 L (.int (x0 * x1) :: st) μ := g_imul (by decide +kernel)
theorem i159_47 : m_G 159 47 [v0, v1, v2, v3, .int x0, v5, v6] st μ = m_G 159 49 [v0, v1, v2, v3, .int x0, v5, v6] (.int x0 :: st) μ := g_iload (i := 4) (by decide +kernel) rfl
theorem i159_49 : m_G 159 49 L (.int x1 :: .int x0 :: st) μ = m_G 159 50 L (.int (x0 + x1) :: st) μ := g_iadd (by decide +kernel)
theorem i159_50 : m_G 159 50 L (.int x0 :: .ref a0 :: st) μ = b_i (m_ga μ a0 x0) 159 51 L st μ := g_iald (by decide +kernel)
theorem i159_51 : m_G 159 51 L (.int x1 :: .int x0 :: st) μ = if x0 = x1 then m_G 159 54 L st μ else m_G 159 58 L st μ := g_cmpne (off := 7) (by decide +kernel) (by decide)
theorem i159_54 : m_G 159 54 L st μ = m_G 159 55 L (.int 1 :: st) μ := g_iconst (n := 1) (by decide +kernel) (by decide)
theorem i159_55 : m_G 159 55 L st μ = m_G 159 59 L st μ := g_goto (off := 4) (by decide +kernel) (by decide)
theorem i159_58 : m_G 159 58 L st μ = m_G 159 59 L (.int 0 :: st) μ := g_iconst (n := 0) (by decide +kernel) (by decide)
theorem i159_59 : m_G 159 59 [v0, v1, v2, v3, v4, v5, v6] (.int x0 :: st) μ = m_G 159 61 [v0, v1, v2, v3, v4, .int x0, v6] st μ := g_istore (i := 5) (by decide +kernel) (Nat.le_of_ble_eq_true rfl) rfl
theorem i159_61 : m_G 159 61 [.ref a0, v1, v2, v3, v4, v5, v6] st μ = m_G 159 62 [.ref a0, v1, v2, v3, v4, v5, v6] (.ref a0 :: st) μ := g_aload_n (i := 0) (by decide +kernel) rfl
theorem i159_62 : m_G 159 62 L (.ref a0 :: st) μ = b_v (m_gf μ a0 9 3) 159 65 L st μ := g_getf (i := 16) (by decide +kernel) (by decide +kernel)
theorem i159_65 : m_G 159 65 L st μ = m_G 159 67 L (.int 24 :: st) μ := g_bipush (n := 24) (by decide +kernel) (by decide)
theorem i159_67 : m_G 159 67 [v0, .int x0, v2, v3, v4, v5, v6] st μ = m_G 159 68 [v0, .int x0, v2, v3, v4, v5, v6] (.int x0 :: st) μ := g_iload_n (i := 1) (by decide +kernel) rfl
theorem i159_68 : m_G 159 68 L (.int x1 :: .int x0 :: st) μ = m_G 159 69 L (.int (x0 * x1) :: st) μ := g_imul (by decide +kernel)
theorem i159_69 : m_G 159 69 [v0, v1, v2, .int x0, v4, v5, v6] st μ = m_G 159 70 [v0, v1, v2, .int x0, v4, v5, v6] (.int x0 :: st) μ := g_iload_n (i := 3) (by decide +kernel) rfl
theorem i159_70 : m_G 159 70 L (.int x1 :: .int x0 :: st) μ = m_G 159 71 L (.int (x0 + x1) :: st) μ := g_iadd (by decide +kernel)
theorem i159_71 : m_G 159 71 L (.int x0 :: .ref a0 :: st) μ = b_i (m_ga μ a0 x0) 159 72 L st μ := g_iald (by decide +kernel)
theorem i159_72 : m_G 159 72 [.ref a0, v1, v2, v3, v4, v5, v6] st μ = m_G 159 73 [.ref a0, v1, v2, v3, v4, v5, v6] (.ref a0 :: st) μ := g_aload_n (i := 0) (by decide +kernel) rfl
theorem i159_73 : m_G 159 73 L (.ref a0 :: st) μ = b_v (m_gf μ a0 9 3) 159 76 L st μ := g_getf (i := 16) (by decide +kernel) (by decide +kernel)
theorem i159_76 : m_G 159 76 L st μ = m_G 159 78 L (.int 24 :: st) μ := g_bipush (n := 24) (by decide +kernel) (by decide)
theorem i159_78 : m_G 159 78 [v0, v1, .int x0, v3, v4, v5, v6] st μ = m_G 159 79 [v0, v1, .int x0, v3, v4, v5, v6] (.int x0 :: st) μ := g_iload_n (i := 2) (by decide +kernel) rfl
theorem i159_79 : m_G 159 79 L (.int x1 :: .int x0 :: st) μ = m_G 159 80 L (.int (x0 * x1) :: st) μ := g_imul (by decide +kernel)
theorem i159_80 : m_G 159 80 [v0, v1, v2, v3, .int x0, v5, v6] st μ = m_G 159 82 [v0, v1, v2, v3, .int x0, v5, v6] (.int x0 :: st) μ := g_iload (i := 4) (by decide +kernel) rfl
theorem i159_82 : m_G 159 82 L (.int x1 :: .int x0 :: st) μ = m_G 159 83 L (.int (x0 + x1) :: st) μ := g_iadd (by decide +kernel)
theorem i159_83 : m_G 159 83 L (.int x0 :: .ref a0 :: st) μ = b_i (m_ga μ a0 x0) 159 84 L st μ := g_iald (by decide +kernel)
theorem i159_84 : m_G 159 84 L (.int x1 :: .int x0 :: st) μ = if x0 = x1 then m_G 159 87 L st μ else m_G 159 91 L st μ := g_cmpne (off := 7) (by decide +kernel) (by decide)
theorem i159_87 : m_G 159 87 L st μ = m_G 159 88 L (.int 1 :: st) μ := g_iconst (n := 1) (by decide +kernel) (by decide)
theorem i159_88 : m_G 159 88 L st μ = m_G 159 92 L st μ := g_goto (off := 4) (by decide +kernel) (by decide)
theorem i159_91 : m_G 159 91 L st μ = m_G 159 92 L (.int 0 :: st) μ := g_iconst (n := 0) (by decide +kernel) (by decide)
theorem i159_92 : m_G 159 92 [v0, v1, v2, v3, v4, v5, v6] (.int x0 :: st) μ = m_G 159 94 [v0, v1, v2, v3, v4, v5, .int x0] st μ := g_istore (i := 6) (by decide +kernel) (Nat.le_of_ble_eq_true rfl) rfl
theorem i159_94 : m_G 159 94 [.ref a0, v1, v2, v3, v4, v5, v6] st μ = m_G 159 95 [.ref a0, v1, v2, v3, v4, v5, v6] (.ref a0 :: st) μ := g_aload_n (i := 0) (by decide +kernel) rfl
theorem i159_95 : m_G 159 95 L (.ref a0 :: st) μ = b_v (m_gf μ a0 9 33) 159 98 L st μ := g_getf (i := 83) (by decide +kernel) (by decide +kernel)
theorem i159_98 : m_G 159 98 L st μ = m_G 159 100 L (.int 24 :: st) μ := g_bipush (n := 24) (by decide +kernel) (by decide)
theorem i159_100 : m_G 159 100 [v0, v1, v2, .int x0, v4, v5, v6] st μ = m_G 159 101 [v0, v1, v2, .int x0, v4, v5, v6] (.int x0 :: st) μ := g_iload_n (i := 3) (by decide +kernel) rfl
theorem i159_101 : m_G 159 101 L (.int x1 :: .int x0 :: st) μ = m_G 159 102 L (.int (x0 * x1) :: st) μ := g_imul (by decide +kernel)
theorem i159_102 : m_G 159 102 [v0, v1, v2, v3, .int x0, v5, v6] st μ = m_G 159 104 [v0, v1, v2, v3, .int x0, v5, v6] (.int x0 :: st) μ := g_iload (i := 4) (by decide +kernel) rfl
theorem i159_104 : m_G 159 104 L (.int x1 :: .int x0 :: st) μ = m_G 159 105 L (.int (x0 + x1) :: st) μ := g_iadd (by decide +kernel)
theorem i159_105 : m_G 159 105 [v0, v1, v2, v3, v4, .int x0, v6] st μ = m_G 159 107 [v0, v1, v2, v3, v4, .int x0, v6] (.int x0 :: st) μ := g_iload (i := 5) (by decide +kernel) rfl
theorem i159_107 : m_G 159 107 L (.int x0 :: st) μ = if x0 = 0 then m_G 159 127 L st μ else m_G 159 110 L st μ := g_ifeq (off := 20) (by decide +kernel) (by decide)
theorem i159_110 : m_G 159 110 L st μ = m_G 159 111 L (.int 1 :: st) μ := g_iconst (n := 1) (by decide +kernel) (by decide)
theorem i159_111 : m_G 159 111 [v0, v1, v2, v3, v4, v5, .int x0] st μ = m_G 159 113 [v0, v1, v2, v3, v4, v5, .int x0] (.int x0 :: st) μ := g_iload (i := 6) (by decide +kernel) rfl
theorem i159_113 : m_G 159 113 L (.int x1 :: .int x0 :: st) μ = m_G 159 114 L (.int (x0 + x1) :: st) μ := g_iadd (by decide +kernel)
theorem i159_114 : m_G 159 114 [.ref a0, v1, v2, v3, v4, v5, v6] st μ = m_G 159 115 [.ref a0, v1, v2, v3, v4, v5, v6] (.ref a0 :: st) μ := g_aload_n (i := 0) (by decide +kernel) rfl
theorem i159_115 : m_G 159 115 [v0, .int x0, v2, v3, v4, v5, v6] st μ = m_G 159 116 [v0, .int x0, v2, v3, v4, v5, v6] (.int x0 :: st) μ := g_iload_n (i := 1) (by decide +kernel) rfl
theorem i159_116 : m_G 159 116 [v0, v1, v2, .int x0, v4, v5, v6] st μ = m_G 159 117 [v0, v1, v2, .int x0, v4, v5, v6] (.int x0 :: st) μ := g_iload_n (i := 3) (by decide +kernel) rfl
theorem i159_117 : m_G 159 117 [v0, v1, .int x0, v3, v4, v5, v6] st μ = m_G 159 118 [v0, v1, .int x0, v3, v4, v5, v6] (.int x0 :: st) μ := g_iload_n (i := 2) (by decide +kernel) rfl
theorem i159_118 : m_G 159 118 [v0, v1, v2, v3, .int x0, v5, v6] st μ = m_G 159 120 [v0, v1, v2, v3, .int x0, v5, v6] (.int x0 :: st) μ := g_iload (i := 4) (by decide +kernel) rfl
theorem i159_120 (ho : m_oc μ a0 = some 9) : m_G 159 120 L (.int x3 :: .int x2 :: .int x1 :: .int x0 :: .ref a0 :: [w0, w1, w2]) μ = b_c (m_D 158 [.ref a0, .int x0, .int x1, .int x2, .int x3] μ) 159 123 L [w0, w1, w2] := g_virt (i := 263) (n := 4) (a := a0) (c := 9) (l := [(9, 158)]) (by decide +kernel) (by decide +kernel) rfl rfl (x_call_ok (ws := [1, 1, 1, 1, 1]) (Nat.le_of_ble_eq_true rfl) rfl (by decide +kernel) rfl (by decide +kernel) rfl rfl) ho
theorem i159_123 : m_G 159 123 L (.int x1 :: .int x0 :: st) μ = m_G 159 124 L (.int (x0 + x1) :: st) μ := g_iadd (by decide +kernel)
theorem i159_124 : m_G 159 124 L st μ = m_G 159 128 L st μ := g_goto (off := 4) (by decide +kernel) (by decide)
theorem i159_127 : m_G 159 127 L st μ = m_G 159 128 L (.int 0 :: st) μ := g_iconst (n := 0) (by decide +kernel) (by decide)
theorem i159_128 : m_G 159 128 L (.int x1 :: .int x0 :: .ref a0 :: st) μ = b_m (m_pa μ a0 x0 x1) 159 129 L st := g_iast (by decide +kernel)
theorem i159_129 : m_G 159 129 [v0, v1, v2, v3, .int x0, v5, v6] st μ = m_G 159 132 [v0, v1, v2, v3, .int (x0 + (-1)), v5, v6] st μ := g_iinc (i := 4) (n := -1) (by decide +kernel) rfl (by decide) rfl
theorem i159_132 : m_G 159 132 L st μ = m_G 159 23 L st μ := g_goto (off := -109) (by decide +kernel) (by decide)
theorem i159_135 : m_G 159 135 [v0, v1, v2, .int x0, v4, v5, v6] st μ = m_G 159 138 [v0, v1, v2, .int (x0 + (-1)), v4, v5, v6] st μ := g_iinc (i := 3) (n := -1) (by decide +kernel) rfl (by decide) rfl
theorem i159_138 : m_G 159 138 L st μ = m_G 159 9 L st μ := g_goto (off := -129) (by decide +kernel) (by decide)
theorem i159_141 : m_G 159 141 [.ref a0, v1, v2, v3, v4, v5, v6] st μ = m_G 159 142 [.ref a0, v1, v2, v3, v4, v5, v6] (.ref a0 :: st) μ := g_aload_n (i := 0) (by decide +kernel) rfl
theorem i159_142 : m_G 159 142 L (.ref a0 :: st) μ = b_v (m_gf μ a0 9 33) 159 145 L st μ := g_getf (i := 83) (by decide +kernel) (by decide +kernel)
theorem i159_145 : m_G 159 145 L st μ = m_G 159 146 L (.int 0 :: st) μ := g_iconst (n := 0) (by decide +kernel) (by decide)
theorem i159_146 : m_G 159 146 L (.int x0 :: .ref a0 :: st) μ = b_i (m_ga μ a0 x0) 159 147 L st μ := g_iald (by decide +kernel)
theorem i159_147 : m_G 159 147 L [.int x0] μ = some (some (.int x0), μ) := g_ireti (by decide +kernel) (by decide)
theorem D159 : m_D 159 [.ref a0, .int x0, .int x1] μ = m_G 159 0 [.ref a0, .int x0, .int x1, m_d, m_d, m_d, m_d] [] μ := d_def (by decide) rfl
theorem i160_0 : m_G 160 0 [.ref a0, v1, v2] st μ = m_G 160 1 [.ref a0, v1, v2] (.ref a0 :: st) μ := g_aload_n (i := 0) (by decide +kernel) rfl
theorem i160_1 : m_G 160 1 [v0, .int x0, v2] st μ = m_G 160 2 [v0, .int x0, v2] (.int x0 :: st) μ := g_iload_n (i := 1) (by decide +kernel) rfl
theorem i160_2 (ho : m_oc μ a0 = some 9) : m_G 160 2 L (.int x0 :: .ref a0 :: []) μ = b_c (m_D 105 [.ref a0, .int x0] μ) 160 5 L [] := g_virt (i := 106) (n := 1) (a := a0) (c := 9) (l := [(9, 105)]) (by decide +kernel) (by decide +kernel) rfl rfl (x_call_ok (ws := [1, 1]) (Nat.le_of_ble_eq_true rfl) rfl (by decide +kernel) rfl (by decide +kernel) rfl rfl) ho
theorem i160_5 : m_G 160 5 L (.int x0 :: st) μ = if x0 = 0 then m_G 160 25 L st μ else m_G 160 8 L st μ := g_ifeq (off := 20) (by decide +kernel) (by decide)
theorem i160_8 : m_G 160 8 [.ref a0, v1, v2] st μ = m_G 160 9 [.ref a0, v1, v2] (.ref a0 :: st) μ := g_aload_n (i := 0) (by decide +kernel) rfl
theorem i160_9 : m_G 160 9 [v0, v1, .int x0] st μ = m_G 160 10 [v0, v1, .int x0] (.int x0 :: st) μ := g_iload_n (i := 2) (by decide +kernel) rfl
theorem i160_10 (ho : m_oc μ a0 = some 9) : m_G 160 10 L (.int x0 :: .ref a0 :: []) μ = b_c (m_D 105 [.ref a0, .int x0] μ) 160 13 L [] := g_virt (i := 106) (n := 1) (a := a0) (c := 9) (l := [(9, 105)]) (by decide +kernel) (by decide +kernel) rfl rfl (x_call_ok (ws := [1, 1]) (Nat.le_of_ble_eq_true rfl) rfl (by decide +kernel) rfl (by decide +kernel) rfl rfl) ho
theorem i160_13 : m_G 160 13 L (.int x0 :: st) μ = if x0 = 0 then m_G 160 25 L st μ else m_G 160 16 L st μ := g_ifeq (off := 12) (by decide +kernel) (by decide)
theorem i160_16 : m_G 160 16 [.ref a0, v1, v2] st μ = m_G 160 17 [.ref a0, v1, v2] (.ref a0 :: st) μ := g_aload_n (i := 0) (by decide +kernel) rfl
theorem i160_17 : m_G 160 17 [v0, .int x0, v2] st μ = m_G 160 18 [v0, .int x0, v2] (.int x0 :: st) μ := g_iload_n (i := 1) (by decide +kernel) rfl
theorem i160_18 : m_G 160 18 [v0, v1, .int x0] st μ = m_G 160 19 [v0, v1, .int x0] (.int x0 :: st) μ := g_iload_n (i := 2) (by decide +kernel) rfl
theorem i160_19 (ho : m_oc μ a0 = some 9) : m_G 160 19 L (.int x1 :: .int x0 :: .ref a0 :: []) μ = b_c (m_D 159 [.ref a0, .int x0, .int x1] μ) 160 22 L [] := g_virt (i := 267) (n := 2) (a := a0) (c := 9) (l := [(9, 159)]) (by decide +kernel) (by decide +kernel) rfl rfl (x_call_ok (ws := [1, 1, 1]) (Nat.le_of_ble_eq_true rfl) rfl (by decide +kernel) rfl (by decide +kernel) rfl rfl) ho
theorem i160_22 : m_G 160 22 L st μ = m_G 160 27 L st μ := g_goto (off := 5) (by decide +kernel) (by decide)
theorem i160_25 : m_G 160 25 L st μ = m_G 160 27 L (.int (-101) :: st) μ := g_bipush (n := -101) (by decide +kernel) (by decide)
theorem i160_27 : m_G 160 27 L [.int x0] μ = some (some (.int x0), μ) := g_ireti (by decide +kernel) (by decide)
theorem D160 : m_D 160 [.ref a0, .int x0, .int x1] μ = m_G 160 0 [.ref a0, .int x0, .int x1] [] μ := d_def (by decide) rfl
theorem i161_0 : m_G 161 0 [.ref a0, v1, v2, v3, v4, v5] st μ = m_G 161 1 [.ref a0, v1, v2, v3, v4, v5] (.ref a0 :: st) μ := g_aload_n (i := 0) (by decide +kernel) rfl
theorem i161_1 : m_G 161 1 [v0, .int x0, v2, v3, v4, v5] st μ = m_G 161 2 [v0, .int x0, v2, v3, v4, v5] (.int x0 :: st) μ := g_iload_n (i := 1) (by decide +kernel) rfl
theorem i161_2 (ho : m_oc μ a0 = some 9) : m_G 161 2 L (.int x0 :: .ref a0 :: []) μ = b_c (m_D 105 [.ref a0, .int x0] μ) 161 5 L [] := g_virt (i := 106) (n := 1) (a := a0) (c := 9) (l := [(9, 105)]) (by decide +kernel) (by decide +kernel) rfl rfl (x_call_ok (ws := [1, 1]) (Nat.le_of_ble_eq_true rfl) rfl (by decide +kernel) rfl (by decide +kernel) rfl rfl) ho
theorem i161_5 : m_G 161 5 L (.int x0 :: st) μ = if x0 = 0 then m_G 161 8 L st μ else m_G 161 11 L st μ := g_ifne (off := 6) (by decide +kernel) (by decide)
theorem i161_8 : m_G 161 8 L st μ = m_G 161 10 L (.int (-101) :: st) μ := g_bipush (n := -101) (by decide +kernel) (by decide)
theorem i161_10 : m_G 161 10 L [.int x0] μ = some (some (.int x0), μ) := g_ireti (by decide +kernel) (by decide)
theorem i161_11 : m_G 161 11 L st μ = m_G 161 12 L (.int (-1) :: st) μ := g_iconst (n := -1) (by decide +kernel) (by decide)
theorem i161_12 : m_G 161 12 [v0, v1, v2, v3, v4, v5] (.int x0 :: st) μ = m_G 161 13 [v0, v1, .int x0, v3, v4, v5] st μ := g_istore_n (i := 2) (by decide +kernel) (Nat.le_of_ble_eq_true rfl) rfl
theorem i161_13 : m_G 161 13 L st μ = m_G 161 14 L (.int (-1) :: st) μ := g_iconst (n := -1) (by decide +kernel) (by decide)
theorem i161_14 : m_G 161 14 [v0, v1, v2, v3, v4, v5] (.int x0 :: st) μ = m_G 161 15 [v0, v1, v2, .int x0, v4, v5] st μ := g_istore_n (i := 3) (by decide +kernel) (Nat.le_of_ble_eq_true rfl) rfl
theorem i161_15 : m_G 161 15 L st μ = m_G 161 16 L (.int 0 :: st) μ := g_iconst (n := 0) (by decide +kernel) (by decide)
theorem i161_16 : m_G 161 16 [v0, v1, v2, v3, v4, v5] (.int x0 :: st) μ = m_G 161 18 [v0, v1, v2, v3, .int x0, v5] st μ := g_istore (i := 4) (by decide +kernel) (Nat.le_of_ble_eq_true rfl) rfl
theorem i161_18 : m_G 161 18 [v0, v1, v2, v3, .int x0, v5] st μ = m_G 161 20 [v0, v1, v2, v3, .int x0, v5] (.int x0 :: st) μ := g_iload (i := 4) (by decide +kernel) rfl
theorem i161_20 : m_G 161 20 [.ref a0, v1, v2, v3, v4, v5] st μ = m_G 161 21 [.ref a0, v1, v2, v3, v4, v5] (.ref a0 :: st) μ := g_aload_n (i := 0) (by decide +kernel) rfl
theorem i161_21 : m_G 161 21 L (.ref a0 :: st) μ = b_v (m_gf μ a0 9 0) 161 24 L st μ := g_getf (i := 99) (by decide +kernel) (by decide +kernel)
theorem i161_24 : m_G 161 24 L (.int x1 :: .int x0 :: st) μ = if x0 < x1 then m_G 161 27 L st μ else m_G 161 78 L st μ := g_cmpge (off := 54) (by decide +kernel) (by decide)
theorem i161_27 : m_G 161 27 [v0, v1, v2, v3, .int x0, v5] st μ = m_G 161 29 [v0, v1, v2, v3, .int x0, v5] (.int x0 :: st) μ := g_iload (i := 4) (by decide +kernel) rfl
theorem i161_29 : m_G 161 29 [v0, .int x0, v2, v3, v4, v5] st μ = m_G 161 30 [v0, .int x0, v2, v3, v4, v5] (.int x0 :: st) μ := g_iload_n (i := 1) (by decide +kernel) rfl
theorem i161_30 : m_G 161 30 L (.int x1 :: .int x0 :: st) μ = if x0 = x1 then m_G 161 33 L st μ else m_G 161 37 L st μ := g_cmpne (off := 7) (by decide +kernel) (by decide)
theorem i161_33 : m_G 161 33 L st μ = m_G 161 34 L (.int (-1) :: st) μ := g_iconst (n := -1) (by decide +kernel) (by decide)
theorem i161_34 : m_G 161 34 L st μ = m_G 161 44 L st μ := g_goto (off := 10) (by decide +kernel) (by decide)
theorem i161_37 : m_G 161 37 [.ref a0, v1, v2, v3, v4, v5] st μ = m_G 161 38 [.ref a0, v1, v2, v3, v4, v5] (.ref a0 :: st) μ := g_aload_n (i := 0) (by decide +kernel) rfl
theorem i161_38 : m_G 161 38 [v0, .int x0, v2, v3, v4, v5] st μ = m_G 161 39 [v0, .int x0, v2, v3, v4, v5] (.int x0 :: st) μ := g_iload_n (i := 1) (by decide +kernel) rfl
theorem i161_39 : m_G 161 39 [v0, v1, v2, v3, .int x0, v5] st μ = m_G 161 41 [v0, v1, v2, v3, .int x0, v5] (.int x0 :: st) μ := g_iload (i := 4) (by decide +kernel) rfl
theorem i161_41 (ho : m_oc μ a0 = some 9) : m_G 161 41 L (.int x1 :: .int x0 :: .ref a0 :: []) μ = b_c (m_D 159 [.ref a0, .int x0, .int x1] μ) 161 44 L [] := g_virt (i := 267) (n := 2) (a := a0) (c := 9) (l := [(9, 159)]) (by decide +kernel) (by decide +kernel) rfl rfl (x_call_ok (ws := [1, 1, 1]) (Nat.le_of_ble_eq_true rfl) rfl (by decide +kernel) rfl (by decide +kernel) rfl rfl) ho
theorem i161_44 : m_G 161 44 [v0, v1, v2, v3, v4, v5] (.int x0 :: st) μ = m_G 161 46 [v0, v1, v2, v3, v4, .int x0] st μ := g_istore (i := 5) (by decide +kernel) (Nat.le_of_ble_eq_true rfl) rfl
theorem i161_46 : m_G 161 46 [v0, v1, v2, v3, v4, .int x0] st μ = m_G 161 48 [v0, v1, v2, v3, v4, .int x0] (.int x0 :: st) μ := g_iload (i := 5) (by decide +kernel) rfl
theorem i161_48 : m_G 161 48 [v0, v1, v2, .int x0, v4, v5] st μ = m_G 161 49 [v0, v1, v2, .int x0, v4, v5] (.int x0 :: st) μ := g_iload_n (i := 3) (by decide +kernel) rfl
theorem i161_49 : m_G 161 49 L (.int x1 :: .int x0 :: st) μ = if x1 < x0 then m_G 161 52 L st μ else m_G 161 57 L st μ := g_cmple (off := 8) (by decide +kernel) (by decide)
theorem i161_52 : m_G 161 52 [v0, v1, v2, v3, .int x0, v5] st μ = m_G 161 54 [v0, v1, v2, v3, .int x0, v5] (.int x0 :: st) μ := g_iload (i := 4) (by decide +kernel) rfl
theorem i161_54 : m_G 161 54 L st μ = m_G 161 58 L st μ := g_goto (off := 4) (by decide +kernel) (by decide)
theorem i161_57 : m_G 161 57 [v0, v1, .int x0, v3, v4, v5] st μ = m_G 161 58 [v0, v1, .int x0, v3, v4, v5] (.int x0 :: st) μ := g_iload_n (i := 2) (by decide +kernel) rfl
theorem i161_58 : m_G 161 58 [v0, v1, v2, v3, v4, v5] (.int x0 :: st) μ = m_G 161 59 [v0, v1, .int x0, v3, v4, v5] st μ := g_istore_n (i := 2) (by decide +kernel) (Nat.le_of_ble_eq_true rfl) rfl
theorem i161_59 : m_G 161 59 [v0, v1, v2, v3, v4, .int x0] st μ = m_G 161 61 [v0, v1, v2, v3, v4, .int x0] (.int x0 :: st) μ := g_iload (i := 5) (by decide +kernel) rfl
theorem i161_61 : m_G 161 61 [v0, v1, v2, .int x0, v4, v5] st μ = m_G 161 62 [v0, v1, v2, .int x0, v4, v5] (.int x0 :: st) μ := g_iload_n (i := 3) (by decide +kernel) rfl
theorem i161_62 : m_G 161 62 L (.int x1 :: .int x0 :: st) μ = if x1 < x0 then m_G 161 65 L st μ else m_G 161 70 L st μ := g_cmple (off := 8) (by decide +kernel) (by decide)
theorem i161_65 : m_G 161 65 [v0, v1, v2, v3, v4, .int x0] st μ = m_G 161 67 [v0, v1, v2, v3, v4, .int x0] (.int x0 :: st) μ := g_iload (i := 5) (by decide +kernel) rfl
theorem i161_67 : m_G 161 67 L st μ = m_G 161 71 L st μ := g_goto (off := 4) (by decide +kernel) (by decide)
theorem i161_70 : m_G 161 70 [v0, v1, v2, .int x0, v4, v5] st μ = m_G 161 71 [v0, v1, v2, .int x0, v4, v5] (.int x0 :: st) μ := g_iload_n (i := 3) (by decide +kernel) rfl
theorem i161_71 : m_G 161 71 [v0, v1, v2, v3, v4, v5] (.int x0 :: st) μ = m_G 161 72 [v0, v1, v2, .int x0, v4, v5] st μ := g_istore_n (i := 3) (by decide +kernel) (Nat.le_of_ble_eq_true rfl) rfl
theorem i161_72 : m_G 161 72 [v0, v1, v2, v3, .int x0, v5] st μ = m_G 161 75 [v0, v1, v2, v3, .int (x0 + 1), v5] st μ := g_iinc (i := 4) (n := 1) (by decide +kernel) rfl (by decide) rfl
theorem i161_75 : m_G 161 75 L st μ = m_G 161 18 L st μ := g_goto (off := -57) (by decide +kernel) (by decide)
theorem i161_78 : m_G 161 78 [v0, v1, .int x0, v3, v4, v5] st μ = m_G 161 79 [v0, v1, .int x0, v3, v4, v5] (.int x0 :: st) μ := g_iload_n (i := 2) (by decide +kernel) rfl
theorem i161_79 : m_G 161 79 L [.int x0] μ = some (some (.int x0), μ) := g_ireti (by decide +kernel) (by decide)
theorem D161 : m_D 161 [.ref a0, .int x0] μ = m_G 161 0 [.ref a0, .int x0, m_d, m_d, m_d, m_d] [] μ := d_def (by decide) rfl
theorem i162_0 : m_G 162 0 [.ref a0, v1, v2, v3, v4] st μ = m_G 162 1 [.ref a0, v1, v2, v3, v4] (.ref a0 :: st) μ := g_aload_n (i := 0) (by decide +kernel) rfl
theorem i162_1 : m_G 162 1 [v0, .int x0, v2, v3, v4] st μ = m_G 162 2 [v0, .int x0, v2, v3, v4] (.int x0 :: st) μ := g_iload_n (i := 1) (by decide +kernel) rfl
theorem i162_2 : m_G 162 2 [v0, v1, .int x0, v3, v4] st μ = m_G 162 3 [v0, v1, .int x0, v3, v4] (.int x0 :: st) μ := g_iload_n (i := 2) (by decide +kernel) rfl
theorem i162_3 : m_G 162 3 L st μ = m_G 162 4 L (.int 1 :: st) μ := g_iconst (n := 1) (by decide +kernel) (by decide)
theorem i162_4 : m_G 162 4 [v0, v1, v2, .int x0, v4] st μ = m_G 162 5 [v0, v1, v2, .int x0, v4] (.int x0 :: st) μ := g_iload_n (i := 3) (by decide +kernel) rfl
theorem i162_5 : m_G 162 5 L (.int x1 :: .int x0 :: st) μ = m_G 162 6 L (.int (x0 <<< (x1 &&& 31)) :: st) μ := g_ishl (by decide +kernel)
theorem i162_6 (ho : m_oc μ a0 = some 9) : m_G 162 6 L (.int x2 :: .int x1 :: .int x0 :: .ref a0 :: []) μ = b_c (m_D 126 [.ref a0, .int x0, .int x1, .int x2] μ) 162 9 L [] := g_virt (i := 184) (n := 3) (a := a0) (c := 9) (l := [(9, 126)]) (by decide +kernel) (by decide +kernel) rfl rfl (x_call_ok (ws := [1, 1, 1, 1]) (Nat.le_of_ble_eq_true rfl) rfl (by decide +kernel) rfl (by decide +kernel) rfl rfl) ho
theorem i162_9 : m_G 162 9 [v0, v1, v2, v3, v4] (.int x0 :: st) μ = m_G 162 11 [v0, v1, v2, v3, .int x0] st μ := g_istore (i := 4) (by decide +kernel) (Nat.le_of_ble_eq_true rfl) rfl
theorem i162_11 : m_G 162 11 [v0, v1, v2, v3, .int x0] st μ = m_G 162 13 [v0, v1, v2, v3, .int x0] (.int x0 :: st) μ := g_iload (i := 4) (by decide +kernel) rfl
theorem i162_13 : m_G 162 13 L (.int x0 :: st) μ = if x0 = 0 then m_G 162 16 L st μ else m_G 162 20 L st μ := g_ifne (off := 7) (by decide +kernel) (by decide)
theorem i162_16 : m_G 162 16 L st μ = m_G 162 17 L (.int (-1) :: st) μ := g_iconst (n := -1) (by decide +kernel) (by decide)
theorem i162_17 : m_G 162 17 L st μ = m_G 162 36 L st μ := g_goto (off := 19) (by decide +kernel) (by decide)
theorem i162_20 : m_G 162 20 [.ref a0, v1, v2, v3, v4] st μ = m_G 162 21 [.ref a0, v1, v2, v3, v4] (.ref a0 :: st) μ := g_aload_n (i := 0) (by decide +kernel) rfl
theorem i162_21 : m_G 162 21 L (.ref a0 :: st) μ = b_v (m_gf μ a0 9 3) 162 24 L st μ := g_getf (i := 16) (by decide +kernel) (by decide +kernel)
theorem i162_24 : m_G 162 24 L st μ = m_G 162 26 L (.int 24 :: st) μ := g_bipush (n := 24) (by decide +kernel) (by decide)
theorem i162_26 : m_G 162 26 [v0, v1, .int x0, v3, v4] st μ = m_G 162 27 [v0, v1, .int x0, v3, v4] (.int x0 :: st) μ := g_iload_n (i := 2) (by decide +kernel) rfl
theorem i162_27 : m_G 162 27 L (.int x1 :: .int x0 :: st) μ = m_G 162 28 L (.int (x0 * x1) :: st) μ := g_imul (by decide +kernel)
theorem i162_28 : m_G 162 28 [v0, v1, v2, v3, .int x0] st μ = m_G 162 30 [v0, v1, v2, v3, .int x0] (.int x0 :: st) μ := g_iload (i := 4) (by decide +kernel) rfl
theorem i162_30 : m_G 162 30 L st μ = m_G 162 31 L (.int 0 :: st) μ := g_iconst (n := 0) (by decide +kernel) (by decide)
theorem i162_31 : m_G 162 31 L (.int x1 :: .int x0 :: [w0, w1]) μ = b_c (m_D 129 [.int x0, .int x1] μ) 162 34 L [w0, w1] := g_stat (i := 190) (n := 2) (by decide +kernel) (by decide +kernel) (by decide) (x_call_ok (ws := [1, 1]) (Nat.le_of_ble_eq_true rfl) rfl (by decide +kernel) rfl (by decide +kernel) rfl rfl)
theorem i162_34 : m_G 162 34 L (.int x1 :: .int x0 :: st) μ = m_G 162 35 L (.int (x0 + x1) :: st) μ := g_iadd (by decide +kernel)
theorem i162_35 : m_G 162 35 L (.int x0 :: .ref a0 :: st) μ = b_i (m_ga μ a0 x0) 162 36 L st μ := g_iald (by decide +kernel)
theorem i162_36 : m_G 162 36 L [.int x0] μ = some (some (.int x0), μ) := g_ireti (by decide +kernel) (by decide)
theorem D162 : m_D 162 [.ref a0, .int x0, .int x1, .int x2] μ = m_G 162 0 [.ref a0, .int x0, .int x1, .int x2, m_d] [] μ := d_def (by decide) rfl
theorem i163_0 : m_G 163 0 [.ref a0, v1, v2, v3, v4, v5, v6, v7, v8, v9, v10, v11, v12, v13, v14, v15] st μ = m_G 163 1 [.ref a0, v1, v2, v3, v4, v5, v6, v7, v8, v9, v10, v11, v12, v13, v14, v15] (.ref a0 :: st) μ := g_aload_n (i := 0) (by decide +kernel) rfl
theorem i163_1 : m_G 163 1 [v0, .int x0, v2, v3, v4, v5, v6, v7, v8, v9, v10, v11, v12, v13, v14, v15] st μ = m_G 163 2 [v0, .int x0, v2, v3, v4, v5, v6, v7, v8, v9, v10, v11, v12, v13, v14, v15] (.int x0 :: st) μ := g_iload_n (i := 1) (by decide +kernel) rfl
theorem i163_2 (ho : m_oc μ a0 = some 9) : m_G 163 2 L (.int x0 :: .ref a0 :: []) μ = b_c (m_D 117 [.ref a0, .int x0] μ) 163 5 L [] := g_virt (i := 154) (n := 1) (a := a0) (c := 9) (l := [(9, 117)]) (by decide +kernel) (by decide +kernel) rfl rfl (x_call_ok (ws := [1, 1]) (Nat.le_of_ble_eq_true rfl) rfl (by decide +kernel) rfl (by decide +kernel) rfl rfl) ho
theorem i163_5 : m_G 163 5 L (.int x0 :: st) μ = if x0 = 0 then m_G 163 42 L st μ else m_G 163 8 L st μ := g_ifeq (off := 37) (by decide +kernel) (by decide)
theorem i163_8 : m_G 163 8 [.ref a0, v1, v2, v3, v4, v5, v6, v7, v8, v9, v10, v11, v12, v13, v14, v15] st μ = m_G 163 9 [.ref a0, v1, v2, v3, v4, v5, v6, v7, v8, v9, v10, v11, v12, v13, v14, v15] (.ref a0 :: st) μ := g_aload_n (i := 0) (by decide +kernel) rfl
theorem i163_9 : m_G 163 9 [v0, v1, .int x0, v3, v4, v5, v6, v7, v8, v9, v10, v11, v12, v13, v14, v15] st μ = m_G 163 10 [v0, v1, .int x0, v3, v4, v5, v6, v7, v8, v9, v10, v11, v12, v13, v14, v15] (.int x0 :: st) μ := g_iload_n (i := 2) (by decide +kernel) rfl
theorem i163_10 (ho : m_oc μ a0 = some 9) : m_G 163 10 L (.int x0 :: .ref a0 :: []) μ = b_c (m_D 117 [.ref a0, .int x0] μ) 163 13 L [] := g_virt (i := 154) (n := 1) (a := a0) (c := 9) (l := [(9, 117)]) (by decide +kernel) (by decide +kernel) rfl rfl (x_call_ok (ws := [1, 1]) (Nat.le_of_ble_eq_true rfl) rfl (by decide +kernel) rfl (by decide +kernel) rfl rfl) ho
theorem i163_13 : m_G 163 13 L (.int x0 :: st) μ = if x0 = 0 then m_G 163 42 L st μ else m_G 163 16 L st μ := g_ifeq (off := 29) (by decide +kernel) (by decide)
theorem i163_16 : m_G 163 16 [.ref a0, v1, v2, v3, v4, v5, v6, v7, v8, v9, v10, v11, v12, v13, v14, v15] st μ = m_G 163 17 [.ref a0, v1, v2, v3, v4, v5, v6, v7, v8, v9, v10, v11, v12, v13, v14, v15] (.ref a0 :: st) μ := g_aload_n (i := 0) (by decide +kernel) rfl
theorem i163_17 : m_G 163 17 [v0, v1, v2, .int x0, v4, v5, v6, v7, v8, v9, v10, v11, v12, v13, v14, v15] st μ = m_G 163 18 [v0, v1, v2, .int x0, v4, v5, v6, v7, v8, v9, v10, v11, v12, v13, v14, v15] (.int x0 :: st) μ := g_iload_n (i := 3) (by decide +kernel) rfl
theorem i163_18 (ho : m_oc μ a0 = some 9) : m_G 163 18 L (.int x0 :: .ref a0 :: []) μ = b_c (m_D 117 [.ref a0, .int x0] μ) 163 21 L [] := g_virt (i := 154) (n := 1) (a := a0) (c := 9) (l := [(9, 117)]) (by decide +kernel) (by decide +kernel) rfl rfl (x_call_ok (ws := [1, 1]) (Nat.le_of_ble_eq_true rfl) rfl (by decide +kernel) rfl (by decide +kernel) rfl rfl) ho
theorem i163_21 : m_G 163 21 L (.int x0 :: st) μ = if x0 = 0 then m_G 163 42 L st μ else m_G 163 24 L st μ := g_ifeq (off := 21) (by decide +kernel) (by decide)
theorem i163_24 : m_G 163 24 [.ref a0, v1, v2, v3, v4, v5, v6, v7, v8, v9, v10, v11, v12, v13, v14, v15] st μ = m_G 163 25 [.ref a0, v1, v2, v3, v4, v5, v6, v7, v8, v9, v10, v11, v12, v13, v14, v15] (.ref a0 :: st) μ := g_aload_n (i := 0) (by decide +kernel) rfl
theorem i163_25 : m_G 163 25 [v0, v1, v2, v3, .int x0, v5, v6, v7, v8, v9, v10, v11, v12, v13, v14, v15] st μ = m_G 163 27 [v0, v1, v2, v3, .int x0, v5, v6, v7, v8, v9, v10, v11, v12, v13, v14, v15] (.int x0 :: st) μ := g_iload (i := 4) (by decide +kernel) rfl
theorem i163_27 (ho : m_oc μ a0 = some 9) : m_G 163 27 L (.int x0 :: .ref a0 :: []) μ = b_c (m_D 105 [.ref a0, .int x0] μ) 163 30 L [] := g_virt (i := 106) (n := 1) (a := a0) (c := 9) (l := [(9, 105)]) (by decide +kernel) (by decide +kernel) rfl rfl (x_call_ok (ws := [1, 1]) (Nat.le_of_ble_eq_true rfl) rfl (by decide +kernel) rfl (by decide +kernel) rfl rfl) ho
theorem i163_30 : m_G 163 30 L (.int x0 :: st) μ = if x0 = 0 then m_G 163 42 L st μ else m_G 163 33 L st μ := g_ifeq (off := 12) (by decide +kernel) (by decide)
theorem i163_33 : m_G 163 33 [.ref a0, v1, v2, v3, v4, v5, v6, v7, v8, v9, v10, v11, v12, v13, v14, v15] st μ = m_G 163 34 [.ref a0, v1, v2, v3, v4, v5, v6, v7, v8, v9, v10, v11, v12, v13, v14, v15] (.ref a0 :: st) μ := g_aload_n (i := 0) (by decide +kernel) rfl
theorem i163_34 : m_G 163 34 [v0, v1, v2, v3, v4, .int x0, v6, v7, v8, v9, v10, v11, v12, v13, v14, v15] st μ = m_G 163 36 [v0, v1, v2, v3, v4, .int x0, v6, v7, v8, v9, v10, v11, v12, v13, v14, v15] (.int x0 :: st) μ := g_iload (i := 5) (by decide +kernel) rfl
theorem i163_36 (ho : m_oc μ a0 = some 9) : m_G 163 36 L (.int x0 :: .ref a0 :: []) μ = b_c (m_D 105 [.ref a0, .int x0] μ) 163 39 L [] := g_virt (i := 106) (n := 1) (a := a0) (c := 9) (l := [(9, 105)]) (by decide +kernel) (by decide +kernel) rfl rfl (x_call_ok (ws := [1, 1]) (Nat.le_of_ble_eq_true rfl) rfl (by decide +kernel) rfl (by decide +kernel) rfl rfl) ho
theorem i163_39 : m_G 163 39 L (.int x0 :: st) μ = if x0 = 0 then m_G 163 42 L st μ else m_G 163 45 L st μ := g_ifne (off := 6) (by decide +kernel) (by decide)
theorem i163_42 : m_G 163 42 L st μ = m_G 163 44 L (.int (-101) :: st) μ := g_bipush (n := -101) (by decide +kernel) (by decide)
theorem i163_44 : m_G 163 44 L [.int x0] μ = some (some (.int x0), μ) := g_ireti (by decide +kernel) (by decide)
theorem i163_45 : m_G 163 45 [v0, v1, v2, v3, v4, v5, .int x0, v7, v8, v9, v10, v11, v12, v13, v14, v15] st μ = m_G 163 47 [v0, v1, v2, v3, v4, v5, .int x0, v7, v8, v9, v10, v11, v12, v13, v14, v15] (.int x0 :: st) μ := g_iload (i := 6) (by decide +kernel) rfl
theorem i163_47 : m_G 163 47 L (.int x0 :: st) μ = if x0 = 0 then m_G 163 68 L st μ else m_G 163 50 L st μ := g_ifeq (off := 21) (by decide +kernel) (by decide)
theorem i163_50 : m_G 163 50 [v0, v1, v2, v3, v4, v5, .int x0, v7, v8, v9, v10, v11, v12, v13, v14, v15] st μ = m_G 163 52 [v0, v1, v2, v3, v4, v5, .int x0, v7, v8, v9, v10, v11, v12, v13, v14, v15] (.int x0 :: st) μ := g_iload (i := 6) (by decide +kernel) rfl
theorem i163_52 : m_G 163 52 L (.int x0 :: st) μ = m_G 163 53 L (.long x0.toInt64 :: st) μ := g_i2l (by decide +kernel)
theorem i163_53 : m_G 163 53 L st μ = m_G 163 56 L (.long (10) :: st) μ := g_ldc2_w (i := 252) (by decide +kernel) (by decide +kernel)
theorem i163_56 : m_G 163 56 L st μ = m_G 163 59 L (.long (69) :: st) μ := g_ldc2_w (i := 270) (by decide +kernel) (by decide +kernel)
theorem i163_59 : m_G 163 59 L (.long l2 :: .long l1 :: .long l0 :: []) μ = b_c (m_D 102 [.long l0, .long l1, .long l2] μ) 163 62 L [] := g_stat (i := 102) (n := 3) (by decide +kernel) (by decide +kernel) (by decide) (x_call_ok (ws := [2, 2, 2]) (Nat.le_of_ble_eq_true rfl) rfl (by decide +kernel) rfl (by decide +kernel) rfl rfl)
theorem i163_62 : m_G 163 62 L (.int x0 :: st) μ = if x0 = 0 then m_G 163 65 L st μ else m_G 163 68 L st μ := g_ifne (off := 6) (by decide +kernel) (by decide)
theorem i163_65 : m_G 163 65 L st μ = m_G 163 67 L (.int (-102) :: st) μ := g_bipush (n := -102) (by decide +kernel) (by decide)
theorem i163_67 : m_G 163 67 L [.int x0] μ = some (some (.int x0), μ) := g_ireti (by decide +kernel) (by decide)
theorem i163_68 : m_G 163 68 [.ref a0, v1, v2, v3, v4, v5, v6, v7, v8, v9, v10, v11, v12, v13, v14, v15] st μ = m_G 163 69 [.ref a0, v1, v2, v3, v4, v5, v6, v7, v8, v9, v10, v11, v12, v13, v14, v15] (.ref a0 :: st) μ := g_aload_n (i := 0) (by decide +kernel) rfl
theorem i163_69 : m_G 163 69 [v0, .int x0, v2, v3, v4, v5, v6, v7, v8, v9, v10, v11, v12, v13, v14, v15] st μ = m_G 163 70 [v0, .int x0, v2, v3, v4, v5, v6, v7, v8, v9, v10, v11, v12, v13, v14, v15] (.int x0 :: st) μ := g_iload_n (i := 1) (by decide +kernel) rfl
theorem i163_70 : m_G 163 70 [v0, v1, v2, v3, .int x0, v5, v6, v7, v8, v9, v10, v11, v12, v13, v14, v15] st μ = m_G 163 72 [v0, v1, v2, v3, .int x0, v5, v6, v7, v8, v9, v10, v11, v12, v13, v14, v15] (.int x0 :: st) μ := g_iload (i := 4) (by decide +kernel) rfl
theorem i163_72 (ho : m_oc μ a0 = some 9) : m_G 163 72 L (.int x1 :: .int x0 :: .ref a0 :: []) μ = b_c (m_D 127 [.ref a0, .int x0, .int x1] μ) 163 75 L [] := g_virt (i := 187) (n := 2) (a := a0) (c := 9) (l := [(9, 127)]) (by decide +kernel) (by decide +kernel) rfl rfl (x_call_ok (ws := [1, 1, 1]) (Nat.le_of_ble_eq_true rfl) rfl (by decide +kernel) rfl (by decide +kernel) rfl rfl) ho
theorem i163_75 : m_G 163 75 [v0, v1, v2, v3, v4, v5, v6, v7, v8, v9, v10, v11, v12, v13, v14, v15] (.int x0 :: st) μ = m_G 163 77 [v0, v1, v2, v3, v4, v5, v6, .int x0, v8, v9, v10, v11, v12, v13, v14, v15] st μ := g_istore (i := 7) (by decide +kernel) (Nat.le_of_ble_eq_true rfl) rfl
theorem i163_77 : m_G 163 77 [.ref a0, v1, v2, v3, v4, v5, v6, v7, v8, v9, v10, v11, v12, v13, v14, v15] st μ = m_G 163 78 [.ref a0, v1, v2, v3, v4, v5, v6, v7, v8, v9, v10, v11, v12, v13, v14, v15] (.ref a0 :: st) μ := g_aload_n (i := 0) (by decide +kernel) rfl
theorem i163_78 : m_G 163 78 [v0, .int x0, v2, v3, v4, v5, v6, v7, v8, v9, v10, v11, v12, v13, v14, v15] st μ = m_G 163 79 [v0, .int x0, v2, v3, v4, v5, v6, v7, v8, v9, v10, v11, v12, v13, v14, v15] (.int x0 :: st) μ := g_iload_n (i := 1) (by decide +kernel) rfl
theorem i163_79 : m_G 163 79 [v0, v1, v2, v3, v4, .int x0, v6, v7, v8, v9, v10, v11, v12, v13, v14, v15] st μ = m_G 163 81 [v0, v1, v2, v3, v4, .int x0, v6, v7, v8, v9, v10, v11, v12, v13, v14, v15] (.int x0 :: st) μ := g_iload (i := 5) (by decide +kernel) rfl
theorem i163_81 (ho : m_oc μ a0 = some 9) : m_G 163 81 L (.int x1 :: .int x0 :: .ref a0 :: []) μ = b_c (m_D 127 [.ref a0, .int x0, .int x1] μ) 163 84 L [] := g_virt (i := 187) (n := 2) (a := a0) (c := 9) (l := [(9, 127)]) (by decide +kernel) (by decide +kernel) rfl rfl (x_call_ok (ws := [1, 1, 1]) (Nat.le_of_ble_eq_true rfl) rfl (by decide +kernel) rfl (by decide +kernel) rfl rfl) ho
theorem i163_84 : m_G 163 84 [v0, v1, v2, v3, v4, v5, v6, v7, v8, v9, v10, v11, v12, v13, v14, v15] (.int x0 :: st) μ = m_G 163 86 [v0, v1, v2, v3, v4, v5, v6, v7, .int x0, v9, v10, v11, v12, v13, v14, v15] st μ := g_istore (i := 8) (by decide +kernel) (Nat.le_of_ble_eq_true rfl) rfl
theorem i163_86 : m_G 163 86 L st μ = m_G 163 87 L (.int 0 :: st) μ := g_iconst (n := 0) (by decide +kernel) (by decide)
theorem i163_87 : m_G 163 87 [v0, v1, v2, v3, v4, v5, v6, v7, v8, v9, v10, v11, v12, v13, v14, v15] (.int x0 :: st) μ = m_G 163 89 [v0, v1, v2, v3, v4, v5, v6, v7, v8, .int x0, v10, v11, v12, v13, v14, v15] st μ := g_istore (i := 9) (by decide +kernel) (Nat.le_of_ble_eq_true rfl) rfl
theorem i163_89 : m_G 163 89 [v0, v1, v2, v3, v4, v5, .int x0, v7, v8, v9, v10, v11, v12, v13, v14, v15] st μ = m_G 163 91 [v0, v1, v2, v3, v4, v5, .int x0, v7, v8, v9, v10, v11, v12, v13, v14, v15] (.int x0 :: st) μ := g_iload (i := 6) (by decide +kernel) rfl
theorem i163_91 : m_G 163 91 L st μ = m_G 163 93 L (.int 40 :: st) μ := g_bipush (n := 40) (by decide +kernel) (by decide)
theorem i163_93 : m_G 163 93 L (.int x1 :: .int x0 :: st) μ = if x0 < x1 then m_G 163 96 L st μ else m_G 163 104 L st μ := g_cmpge (off := 11) (by decide +kernel) (by decide)
theorem i163_96 : m_G 163 96 [v0, v1, v2, v3, v4, v5, .int x0, v7, v8, v9, v10, v11, v12, v13, v14, v15] st μ = m_G 163 98 [v0, v1, v2, v3, v4, v5, .int x0, v7, v8, v9, v10, v11, v12, v13, v14, v15] (.int x0 :: st) μ := g_iload (i := 6) (by decide +kernel) rfl
theorem i163_98 : m_G 163 98 L st μ = m_G 163 100 L (.int 10 :: st) μ := g_bipush (n := 10) (by decide +kernel) (by decide)
theorem i163_100 : m_G 163 100 L (.int x1 :: .int x0 :: st) μ = m_G 163 101 L (.int (x0 - x1) :: st) μ := g_isub (by decide +kernel)
theorem i163_101 : m_G 163 101 L st μ = m_G 163 109 L st μ := g_goto (off := 8) (by decide +kernel) (by decide)
theorem i163_104 : m_G 163 104 [v0, v1, v2, v3, v4, v5, .int x0, v7, v8, v9, v10, v11, v12, v13, v14, v15] st μ = m_G 163 106 [v0, v1, v2, v3, v4, v5, .int x0, v7, v8, v9, v10, v11, v12, v13, v14, v15] (.int x0 :: st) μ := g_iload (i := 6) (by decide +kernel) rfl
theorem i163_106 : m_G 163 106 L st μ = m_G 163 108 L (.int 40 :: st) μ := g_bipush (n := 40) (by decide +kernel) (by decide)
theorem i163_108 : m_G 163 108 L (.int x1 :: .int x0 :: st) μ = m_G 163 109 L (.int (x0 - x1) :: st) μ := g_isub (by decide +kernel)
theorem i163_109 : m_G 163 109 [v0, v1, v2, v3, v4, v5, v6, v7, v8, v9, v10, v11, v12, v13, v14, v15] (.int x0 :: st) μ = m_G 163 111 [v0, v1, v2, v3, v4, v5, v6, v7, v8, v9, .int x0, v11, v12, v13, v14, v15] st μ := g_istore (i := 10) (by decide +kernel) (Nat.le_of_ble_eq_true rfl) rfl
theorem i163_111 : m_G 163 111 L st μ = m_G 163 113 L (.int (-2) :: st) μ := g_bipush (n := -2) (by decide +kernel) (by decide)
theorem i163_113 : m_G 163 113 [v0, v1, v2, v3, v4, v5, v6, v7, v8, v9, v10, v11, v12, v13, v14, v15] (.int x0 :: st) μ = m_G 163 115 [v0, v1, v2, v3, v4, v5, v6, v7, v8, v9, v10, .int x0, v12, v13, v14, v15] st μ := g_istore (i := 11) (by decide +kernel) (Nat.le_of_ble_eq_true rfl) rfl
theorem i163_115 : m_G 163 115 L st μ = m_G 163 116 L (.int 0 :: st) μ := g_iconst (n := 0) (by decide +kernel) (by decide)
theorem i163_116 : m_G 163 116 [v0, v1, v2, v3, v4, v5, v6, v7, v8, v9, v10, v11, v12, v13, v14, v15] (.int x0 :: st) μ = m_G 163 118 [v0, v1, v2, v3, v4, v5, v6, v7, v8, v9, v10, v11, .int x0, v13, v14, v15] st μ := g_istore (i := 12) (by decide +kernel) (Nat.le_of_ble_eq_true rfl) rfl
theorem i163_118 : m_G 163 118 [v0, v1, v2, v3, v4, v5, v6, v7, v8, v9, v10, v11, .int x0, v13, v14, v15] st μ = m_G 163 120 [v0, v1, v2, v3, v4, v5, v6, v7, v8, v9, v10, v11, .int x0, v13, v14, v15] (.int x0 :: st) μ := g_iload (i := 12) (by decide +kernel) rfl
theorem i163_120 : m_G 163 120 L st μ = m_G 163 122 L (.int 24 :: st) μ := g_bipush (n := 24) (by decide +kernel) (by decide)
theorem i163_122 : m_G 163 122 L (.int x1 :: .int x0 :: st) μ = if x0 < x1 then m_G 163 125 L st μ else m_G 163 264 L st μ := g_cmpge (off := 142) (by decide +kernel) (by decide)
theorem i163_125 : m_G 163 125 [v0, v1, v2, v3, v4, v5, v6, .int x0, v8, v9, v10, v11, v12, v13, v14, v15] st μ = m_G 163 127 [v0, v1, v2, v3, v4, v5, v6, .int x0, v8, v9, v10, v11, v12, v13, v14, v15] (.int x0 :: st) μ := g_iload (i := 7) (by decide +kernel) rfl
theorem i163_127 : m_G 163 127 [v0, v1, v2, v3, v4, v5, v6, v7, v8, v9, v10, v11, .int x0, v13, v14, v15] st μ = m_G 163 129 [v0, v1, v2, v3, v4, v5, v6, v7, v8, v9, v10, v11, .int x0, v13, v14, v15] (.int x0 :: st) μ := g_iload (i := 12) (by decide +kernel) rfl
theorem i163_129 : m_G 163 129 L (.int x1 :: .int x0 :: []) μ = b_c (m_D 104 [.int x0, .int x1] μ) 163 132 L [] := g_stat (i := 172) (n := 2) (by decide +kernel) (by decide +kernel) (by decide) (x_call_ok (ws := [1, 1]) (Nat.le_of_ble_eq_true rfl) rfl (by decide +kernel) rfl (by decide +kernel) rfl rfl)
theorem i163_132 : m_G 163 132 L (.int x0 :: st) μ = if x0 = 0 then m_G 163 147 L st μ else m_G 163 135 L st μ := g_ifeq (off := 15) (by decide +kernel) (by decide)
theorem i163_135 : m_G 163 135 [.ref a0, v1, v2, v3, v4, v5, v6, v7, v8, v9, v10, v11, v12, v13, v14, v15] st μ = m_G 163 136 [.ref a0, v1, v2, v3, v4, v5, v6, v7, v8, v9, v10, v11, v12, v13, v14, v15] (.ref a0 :: st) μ := g_aload_n (i := 0) (by decide +kernel) rfl
theorem i163_136 : m_G 163 136 [v0, v1, .int x0, v3, v4, v5, v6, v7, v8, v9, v10, v11, v12, v13, v14, v15] st μ = m_G 163 137 [v0, v1, .int x0, v3, v4, v5, v6, v7, v8, v9, v10, v11, v12, v13, v14, v15] (.int x0 :: st) μ := g_iload_n (i := 2) (by decide +kernel) rfl
theorem i163_137 : m_G 163 137 [v0, v1, v2, v3, .int x0, v5, v6, v7, v8, v9, v10, v11, v12, v13, v14, v15] st μ = m_G 163 139 [v0, v1, v2, v3, .int x0, v5, v6, v7, v8, v9, v10, v11, v12, v13, v14, v15] (.int x0 :: st) μ := g_iload (i := 4) (by decide +kernel) rfl
theorem i163_139 : m_G 163 139 [v0, v1, v2, v3, v4, v5, v6, v7, v8, v9, v10, v11, .int x0, v13, v14, v15] st μ = m_G 163 141 [v0, v1, v2, v3, v4, v5, v6, v7, v8, v9, v10, v11, .int x0, v13, v14, v15] (.int x0 :: st) μ := g_iload (i := 12) (by decide +kernel) rfl
theorem i163_141 (ho : m_oc μ a0 = some 9) : m_G 163 141 L (.int x2 :: .int x1 :: .int x0 :: .ref a0 :: []) μ = b_c (m_D 162 [.ref a0, .int x0, .int x1, .int x2] μ) 163 144 L [] := g_virt (i := 272) (n := 3) (a := a0) (c := 9) (l := [(9, 162)]) (by decide +kernel) (by decide +kernel) rfl rfl (x_call_ok (ws := [1, 1, 1, 1]) (Nat.le_of_ble_eq_true rfl) rfl (by decide +kernel) rfl (by decide +kernel) rfl rfl) ho
theorem i163_144 : m_G 163 144 L st μ = m_G 163 148 L st μ := g_goto (off := 4) (by decide +kernel) (by decide)
theorem i163_147 : m_G 163 147 L st μ = m_G 163 148 L (.int (-1) :: st) μ := g_iconst (n := -1) (by decide +kernel) (by decide)
theorem i163_148 : m_G 163 148 [v0, v1, v2, v3, v4, v5, v6, v7, v8, v9, v10, v11, v12, v13, v14, v15] (.int x0 :: st) μ = m_G 163 150 [v0, v1, v2, v3, v4, v5, v6, v7, v8, v9, v10, v11, v12, .int x0, v14, v15] st μ := g_istore (i := 13) (by decide +kernel) (Nat.le_of_ble_eq_true rfl) rfl
theorem i163_150 : m_G 163 150 L st μ = m_G 163 151 L (.int 0 :: st) μ := g_iconst (n := 0) (by decide +kernel) (by decide)
theorem i163_151 : m_G 163 151 [v0, v1, v2, v3, v4, v5, v6, v7, v8, v9, v10, v11, v12, v13, v14, v15] (.int x0 :: st) μ = m_G 163 153 [v0, v1, v2, v3, v4, v5, v6, v7, v8, v9, v10, v11, v12, v13, .int x0, v15] st μ := g_istore (i := 14) (by decide +kernel) (Nat.le_of_ble_eq_true rfl) rfl
theorem i163_153 : m_G 163 153 [v0, v1, v2, v3, v4, v5, v6, v7, v8, v9, v10, v11, v12, v13, .int x0, v15] st μ = m_G 163 155 [v0, v1, v2, v3, v4, v5, v6, v7, v8, v9, v10, v11, v12, v13, .int x0, v15] (.int x0 :: st) μ := g_iload (i := 14) (by decide +kernel) rfl
theorem i163_155 : m_G 163 155 L st μ = m_G 163 157 L (.int 24 :: st) μ := g_bipush (n := 24) (by decide +kernel) (by decide)
theorem i163_157 : m_G 163 157 L (.int x1 :: .int x0 :: st) μ = if x0 < x1 then m_G 163 160 L st μ else m_G 163 258 L st μ := g_cmpge (off := 101) (by decide +kernel) (by decide)
theorem i163_160 : m_G 163 160 [v0, v1, v2, v3, v4, v5, v6, v7, v8, v9, v10, v11, v12, .int x0, v14, v15] st μ = m_G 163 162 [v0, v1, v2, v3, v4, v5, v6, v7, v8, v9, v10, v11, v12, .int x0, v14, v15] (.int x0 :: st) μ := g_iload (i := 13) (by decide +kernel) rfl
theorem i163_162 : m_G 163 162 L st μ = m_G 163 163 L (.int (-1) :: st) μ := g_iconst (n := -1) (by decide +kernel) (by decide)
theorem i163_163 : m_G 163 163 L (.int x1 :: .int x0 :: st) μ = if x0 = x1 then m_G 163 258 L st μ else m_G 163 166 L st μ := g_cmpeq (off := 95) (by decide +kernel) (by decide)
theorem i163_166 : m_G 163 166 [v0, v1, v2, v3, v4, v5, v6, v7, .int x0, v9, v10, v11, v12, v13, v14, v15] st μ = m_G 163 168 [v0, v1, v2, v3, v4, v5, v6, v7, .int x0, v9, v10, v11, v12, v13, v14, v15] (.int x0 :: st) μ := g_iload (i := 8) (by decide +kernel) rfl
theorem i163_168 : m_G 163 168 [v0, v1, v2, v3, v4, v5, v6, v7, v8, v9, v10, v11, v12, v13, .int x0, v15] st μ = m_G 163 170 [v0, v1, v2, v3, v4, v5, v6, v7, v8, v9, v10, v11, v12, v13, .int x0, v15] (.int x0 :: st) μ := g_iload (i := 14) (by decide +kernel) rfl
theorem i163_170 : m_G 163 170 L (.int x1 :: .int x0 :: []) μ = b_c (m_D 104 [.int x0, .int x1] μ) 163 173 L [] := g_stat (i := 172) (n := 2) (by decide +kernel) (by decide +kernel) (by decide) (x_call_ok (ws := [1, 1]) (Nat.le_of_ble_eq_true rfl) rfl (by decide +kernel) rfl (by decide +kernel) rfl rfl)
theorem i163_173 : m_G 163 173 L (.int x0 :: st) μ = if x0 = 0 then m_G 163 252 L st μ else m_G 163 176 L st μ := g_ifeq (off := 79) (by decide +kernel) (by decide)
theorem i163_176 : m_G 163 176 [.ref a0, v1, v2, v3, v4, v5, v6, v7, v8, v9, v10, v11, v12, v13, v14, v15] st μ = m_G 163 177 [.ref a0, v1, v2, v3, v4, v5, v6, v7, v8, v9, v10, v11, v12, v13, v14, v15] (.ref a0 :: st) μ := g_aload_n (i := 0) (by decide +kernel) rfl
theorem i163_177 : m_G 163 177 [v0, v1, .int x0, v3, v4, v5, v6, v7, v8, v9, v10, v11, v12, v13, v14, v15] st μ = m_G 163 178 [v0, v1, .int x0, v3, v4, v5, v6, v7, v8, v9, v10, v11, v12, v13, v14, v15] (.int x0 :: st) μ := g_iload_n (i := 2) (by decide +kernel) rfl
theorem i163_178 : m_G 163 178 [v0, v1, v2, v3, v4, .int x0, v6, v7, v8, v9, v10, v11, v12, v13, v14, v15] st μ = m_G 163 180 [v0, v1, v2, v3, v4, .int x0, v6, v7, v8, v9, v10, v11, v12, v13, v14, v15] (.int x0 :: st) μ := g_iload (i := 5) (by decide +kernel) rfl
theorem i163_180 : m_G 163 180 [v0, v1, v2, v3, v4, v5, v6, v7, v8, v9, v10, v11, v12, v13, .int x0, v15] st μ = m_G 163 182 [v0, v1, v2, v3, v4, v5, v6, v7, v8, v9, v10, v11, v12, v13, .int x0, v15] (.int x0 :: st) μ := g_iload (i := 14) (by decide +kernel) rfl
theorem i163_182 (ho : m_oc μ a0 = some 9) : m_G 163 182 L (.int x2 :: .int x1 :: .int x0 :: .ref a0 :: []) μ = b_c (m_D 162 [.ref a0, .int x0, .int x1, .int x2] μ) 163 185 L [] := g_virt (i := 272) (n := 3) (a := a0) (c := 9) (l := [(9, 162)]) (by decide +kernel) (by decide +kernel) rfl rfl (x_call_ok (ws := [1, 1, 1, 1]) (Nat.le_of_ble_eq_true rfl) rfl (by decide +kernel) rfl (by decide +kernel) rfl rfl) ho
theorem i163_185 : m_G 163 185 [v0, v1, v2, v3, v4, v5, v6, v7, v8, v9, v10, v11, v12, .int x0, v14, v15] st μ = m_G 163 187 [v0, v1, v2, v3, v4, v5, v6, v7, v8, v9, v10, v11, v12, .int x0, v14, v15] (.int x0 :: st) μ := g_iload (i := 13) (by decide +kernel) rfl
theorem i163_187 : m_G 163 187 L (.int x1 :: .int x0 :: st) μ = if x0 = x1 then m_G 163 190 L st μ else m_G 163 252 L st μ := g_cmpne (off := 65) (by decide +kernel) (by decide)
theorem i163_190 : m_G 163 190 [v0, v1, v2, v3, v4, v5, .int x0, v7, v8, v9, v10, v11, v12, v13, v14, v15] st μ = m_G 163 192 [v0, v1, v2, v3, v4, v5, .int x0, v7, v8, v9, v10, v11, v12, v13, v14, v15] (.int x0 :: st) μ := g_iload (i := 6) (by decide +kernel) rfl
theorem i163_192 : m_G 163 192 L (.int x0 :: st) μ = if x0 ≤ 0 then m_G 163 206 L st μ else m_G 163 195 L st μ := g_ifle (off := 14) (by decide +kernel) (by decide)
theorem i163_195 : m_G 163 195 [v0, v1, v2, v3, v4, v5, v6, v7, v8, .int x0, v10, v11, v12, v13, v14, v15] st μ = m_G 163 197 [v0, v1, v2, v3, v4, v5, v6, v7, v8, .int x0, v10, v11, v12, v13, v14, v15] (.int x0 :: st) μ := g_iload (i := 9) (by decide +kernel) rfl
theorem i163_197 : m_G 163 197 [v0, v1, v2, v3, v4, v5, v6, v7, v8, v9, .int x0, v11, v12, v13, v14, v15] st μ = m_G 163 199 [v0, v1, v2, v3, v4, v5, v6, v7, v8, v9, .int x0, v11, v12, v13, v14, v15] (.int x0 :: st) μ := g_iload (i := 10) (by decide +kernel) rfl
theorem i163_199 : m_G 163 199 L (.int x1 :: .int x0 :: st) μ = if x0 = x1 then m_G 163 202 L st μ else m_G 163 206 L st μ := g_cmpne (off := 7) (by decide +kernel) (by decide)
theorem i163_202 : m_G 163 202 L st μ = m_G 163 203 L (.int 1 :: st) μ := g_iconst (n := 1) (by decide +kernel) (by decide)
theorem i163_203 : m_G 163 203 L st μ = m_G 163 207 L st μ := g_goto (off := 4) (by decide +kernel) (by decide)
theorem i163_206 : m_G 163 206 L st μ = m_G 163 207 L (.int 0 :: st) μ := g_iconst (n := 0) (by decide +kernel) (by decide)
theorem i163_207 : m_G 163 207 [v0, v1, v2, v3, v4, v5, v6, v7, v8, v9, v10, v11, v12, v13, v14, v15] (.int x0 :: st) μ = m_G 163 209 [v0, v1, v2, v3, v4, v5, v6, v7, v8, v9, v10, v11, v12, v13, v14, .int x0] st μ := g_istore (i := 15) (by decide +kernel) (Nat.le_of_ble_eq_true rfl) rfl
theorem i163_209 : m_G 163 209 [v0, v1, v2, v3, v4, v5, v6, v7, v8, v9, v10, v11, v12, v13, v14, .int x0] st μ = m_G 163 211 [v0, v1, v2, v3, v4, v5, v6, v7, v8, v9, v10, v11, v12, v13, v14, .int x0] (.int x0 :: st) μ := g_iload (i := 15) (by decide +kernel) rfl
theorem i163_211 : m_G 163 211 L (.int x0 :: st) μ = if x0 = 0 then m_G 163 245 L st μ else m_G 163 214 L st μ := g_ifeq (off := 34) (by decide +kernel) (by decide)
theorem i163_214 : m_G 163 214 [v0, v1, v2, v3, v4, v5, .int x0, v7, v8, v9, v10, v11, v12, v13, v14, v15] st μ = m_G 163 216 [v0, v1, v2, v3, v4, v5, .int x0, v7, v8, v9, v10, v11, v12, v13, v14, v15] (.int x0 :: st) μ := g_iload (i := 6) (by decide +kernel) rfl
theorem i163_216 : m_G 163 216 L st μ = m_G 163 218 L (.int 40 :: st) μ := g_bipush (n := 40) (by decide +kernel) (by decide)
theorem i163_218 : m_G 163 218 L (.int x1 :: .int x0 :: st) μ = if x0 < x1 then m_G 163 221 L st μ else m_G 163 233 L st μ := g_cmpge (off := 15) (by decide +kernel) (by decide)
theorem i163_221 : m_G 163 221 [.ref a0, v1, v2, v3, v4, v5, v6, v7, v8, v9, v10, v11, v12, v13, v14, v15] st μ = m_G 163 222 [.ref a0, v1, v2, v3, v4, v5, v6, v7, v8, v9, v10, v11, v12, v13, v14, v15] (.ref a0 :: st) μ := g_aload_n (i := 0) (by decide +kernel) rfl
theorem i163_222 : m_G 163 222 [v0, v1, v2, .int x0, v4, v5, v6, v7, v8, v9, v10, v11, v12, v13, v14, v15] st μ = m_G 163 223 [v0, v1, v2, .int x0, v4, v5, v6, v7, v8, v9, v10, v11, v12, v13, v14, v15] (.int x0 :: st) μ := g_iload_n (i := 3) (by decide +kernel) rfl
theorem i163_223 : m_G 163 223 [v0, v1, v2, v3, .int x0, v5, v6, v7, v8, v9, v10, v11, v12, v13, v14, v15] st μ = m_G 163 225 [v0, v1, v2, v3, .int x0, v5, v6, v7, v8, v9, v10, v11, v12, v13, v14, v15] (.int x0 :: st) μ := g_iload (i := 4) (by decide +kernel) rfl
theorem i163_225 : m_G 163 225 [v0, v1, v2, v3, v4, v5, v6, v7, v8, v9, v10, v11, .int x0, v13, v14, v15] st μ = m_G 163 227 [v0, v1, v2, v3, v4, v5, v6, v7, v8, v9, v10, v11, .int x0, v13, v14, v15] (.int x0 :: st) μ := g_iload (i := 12) (by decide +kernel) rfl
theorem i163_227 (ho : m_oc μ a0 = some 9) : m_G 163 227 L (.int x2 :: .int x1 :: .int x0 :: .ref a0 :: []) μ = b_c (m_D 162 [.ref a0, .int x0, .int x1, .int x2] μ) 163 230 L [] := g_virt (i := 272) (n := 3) (a := a0) (c := 9) (l := [(9, 162)]) (by decide +kernel) (by decide +kernel) rfl rfl (x_call_ok (ws := [1, 1, 1, 1]) (Nat.le_of_ble_eq_true rfl) rfl (by decide +kernel) rfl (by decide +kernel) rfl rfl) ho
theorem i163_230 : m_G 163 230 L st μ = m_G 163 247 L st μ := g_goto (off := 17) (by decide +kernel) (by decide)
theorem i163_233 : m_G 163 233 [.ref a0, v1, v2, v3, v4, v5, v6, v7, v8, v9, v10, v11, v12, v13, v14, v15] st μ = m_G 163 234 [.ref a0, v1, v2, v3, v4, v5, v6, v7, v8, v9, v10, v11, v12, v13, v14, v15] (.ref a0 :: st) μ := g_aload_n (i := 0) (by decide +kernel) rfl
theorem i163_234 : m_G 163 234 [v0, v1, v2, .int x0, v4, v5, v6, v7, v8, v9, v10, v11, v12, v13, v14, v15] st μ = m_G 163 235 [v0, v1, v2, .int x0, v4, v5, v6, v7, v8, v9, v10, v11, v12, v13, v14, v15] (.int x0 :: st) μ := g_iload_n (i := 3) (by decide +kernel) rfl
theorem i163_235 : m_G 163 235 [v0, v1, v2, v3, v4, .int x0, v6, v7, v8, v9, v10, v11, v12, v13, v14, v15] st μ = m_G 163 237 [v0, v1, v2, v3, v4, .int x0, v6, v7, v8, v9, v10, v11, v12, v13, v14, v15] (.int x0 :: st) μ := g_iload (i := 5) (by decide +kernel) rfl
theorem i163_237 : m_G 163 237 [v0, v1, v2, v3, v4, v5, v6, v7, v8, v9, v10, v11, v12, v13, .int x0, v15] st μ = m_G 163 239 [v0, v1, v2, v3, v4, v5, v6, v7, v8, v9, v10, v11, v12, v13, .int x0, v15] (.int x0 :: st) μ := g_iload (i := 14) (by decide +kernel) rfl
theorem i163_239 (ho : m_oc μ a0 = some 9) : m_G 163 239 L (.int x2 :: .int x1 :: .int x0 :: .ref a0 :: []) μ = b_c (m_D 162 [.ref a0, .int x0, .int x1, .int x2] μ) 163 242 L [] := g_virt (i := 272) (n := 3) (a := a0) (c := 9) (l := [(9, 162)]) (by decide +kernel) (by decide +kernel) rfl rfl (x_call_ok (ws := [1, 1, 1, 1]) (Nat.le_of_ble_eq_true rfl) rfl (by decide +kernel) rfl (by decide +kernel) rfl rfl) ho
theorem i163_242 : m_G 163 242 L st μ = m_G 163 247 L st μ := g_goto (off := 5) (by decide +kernel) (by decide)
theorem i163_245 : m_G 163 245 [v0, v1, v2, v3, v4, v5, v6, v7, v8, v9, v10, .int x0, v12, v13, v14, v15] st μ = m_G 163 247 [v0, v1, v2, v3, v4, v5, v6, v7, v8, v9, v10, .int x0, v12, v13, v14, v15] (.int x0 :: st) μ := g_iload (i := 11) (by decide +kernel) rfl
theorem i163_247 : m_G 163 247 [v0, v1, v2, v3, v4, v5, v6, v7, v8, v9, v10, v11, v12, v13, v14, v15] (.int x0 :: st) μ = m_G 163 249 [v0, v1, v2, v3, v4, v5, v6, v7, v8, v9, v10, .int x0, v12, v13, v14, v15] st μ := g_istore (i := 11) (by decide +kernel) (Nat.le_of_ble_eq_true rfl) rfl
theorem i163_249 : m_G 163 249 [v0, v1, v2, v3, v4, v5, v6, v7, v8, .int x0, v10, v11, v12, v13, v14, v15] st μ = m_G 163 252 [v0, v1, v2, v3, v4, v5, v6, v7, v8, .int (x0 + 1), v10, v11, v12, v13, v14, v15] st μ := g_iinc (i := 9) (n := 1) (by decide +kernel) rfl (by decide) rfl
theorem i163_252 : m_G 163 252 [v0, v1, v2, v3, v4, v5, v6, v7, v8, v9, v10, v11, v12, v13, .int x0, v15] st μ = m_G 163 255 [v0, v1, v2, v3, v4, v5, v6, v7, v8, v9, v10, v11, v12, v13, .int (x0 + 1), v15] st μ := g_iinc (i := 14) (n := 1) (by decide +kernel) rfl (by decide) rfl
theorem i163_255 : m_G 163 255 L st μ = m_G 163 153 L st μ := g_goto (off := -102) (by decide +kernel) (by decide)
theorem i163_258 : m_G 163 258 [v0, v1, v2, v3, v4, v5, v6, v7, v8, v9, v10, v11, .int x0, v13, v14, v15] st μ = m_G 163 261 [v0, v1, v2, v3, v4, v5, v6, v7, v8, v9, v10, v11, .int (x0 + 1), v13, v14, v15] st μ := g_iinc (i := 12) (n := 1) (by decide +kernel) rfl (by decide) rfl
theorem i163_261 : m_G 163 261 L st μ = m_G 163 118 L st μ := g_goto (off := -143) (by decide +kernel) (by decide)
theorem i163_264 : m_G 163 264 [v0, v1, v2, v3, v4, v5, .int x0, v7, v8, v9, v10, v11, v12, v13, v14, v15] st μ = m_G 163 266 [v0, v1, v2, v3, v4, v5, .int x0, v7, v8, v9, v10, v11, v12, v13, v14, v15] (.int x0 :: st) μ := g_iload (i := 6) (by decide +kernel) rfl
theorem i163_266 : m_G 163 266 L (.int x0 :: st) μ = if x0 = 0 then m_G 163 269 L st μ else m_G 163 274 L st μ := g_ifne (off := 8) (by decide +kernel) (by decide)
theorem i163_269 : m_G 163 269 [v0, v1, v2, v3, v4, v5, v6, v7, v8, .int x0, v10, v11, v12, v13, v14, v15] st μ = m_G 163 271 [v0, v1, v2, v3, v4, v5, v6, v7, v8, .int x0, v10, v11, v12, v13, v14, v15] (.int x0 :: st) μ := g_iload (i := 9) (by decide +kernel) rfl
theorem i163_271 : m_G 163 271 L st μ = m_G 163 276 L st μ := g_goto (off := 5) (by decide +kernel) (by decide)
theorem i163_274 : m_G 163 274 [v0, v1, v2, v3, v4, v5, v6, v7, v8, v9, v10, .int x0, v12, v13, v14, v15] st μ = m_G 163 276 [v0, v1, v2, v3, v4, v5, v6, v7, v8, v9, v10, .int x0, v12, v13, v14, v15] (.int x0 :: st) μ := g_iload (i := 11) (by decide +kernel) rfl
theorem i163_276 : m_G 163 276 L [.int x0] μ = some (some (.int x0), μ) := g_ireti (by decide +kernel) (by decide)
theorem D163 : m_D 163 [.ref a0, .int x0, .int x1, .int x2, .int x3, .int x4, .int x5] μ = m_G 163 0 [.ref a0, .int x0, .int x1, .int x2, .int x3, .int x4, .int x5, m_d, m_d, m_d, m_d, m_d, m_d, m_d, m_d, m_d] [] μ := d_def (by decide) rfl
theorem i164_0 : m_G 164 0 [.ref a0, v1, v2, v3, v4, v5] st μ = m_G 164 1 [.ref a0, v1, v2, v3, v4, v5] (.ref a0 :: st) μ := g_aload_n (i := 0) (by decide +kernel) rfl
theorem i164_1 : m_G 164 1 [v0, .int x0, v2, v3, v4, v5] st μ = m_G 164 2 [v0, .int x0, v2, v3, v4, v5] (.int x0 :: st) μ := g_iload_n (i := 1) (by decide +kernel) rfl
theorem i164_2 (ho : m_oc μ a0 = some 9) : m_G 164 2 L (.int x0 :: .ref a0 :: []) μ = b_c (m_D 117 [.ref a0, .int x0] μ) 164 5 L [] := g_virt (i := 154) (n := 1) (a := a0) (c := 9) (l := [(9, 117)]) (by decide +kernel) (by decide +kernel) rfl rfl (x_call_ok (ws := [1, 1]) (Nat.le_of_ble_eq_true rfl) rfl (by decide +kernel) rfl (by decide +kernel) rfl rfl) ho
theorem i164_5 : m_G 164 5 L (.int x0 :: st) μ = if x0 = 0 then m_G 164 24 L st μ else m_G 164 8 L st μ := g_ifeq (off := 19) (by decide +kernel) (by decide)
theorem i164_8 : m_G 164 8 [.ref a0, v1, v2, v3, v4, v5] st μ = m_G 164 9 [.ref a0, v1, v2, v3, v4, v5] (.ref a0 :: st) μ := g_aload_n (i := 0) (by decide +kernel) rfl
theorem i164_9 : m_G 164 9 [v0, v1, .int x0, v3, v4, v5] st μ = m_G 164 10 [v0, v1, .int x0, v3, v4, v5] (.int x0 :: st) μ := g_iload_n (i := 2) (by decide +kernel) rfl
theorem i164_10 (ho : m_oc μ a0 = some 9) : m_G 164 10 L (.int x0 :: .ref a0 :: []) μ = b_c (m_D 117 [.ref a0, .int x0] μ) 164 13 L [] := g_virt (i := 154) (n := 1) (a := a0) (c := 9) (l := [(9, 117)]) (by decide +kernel) (by decide +kernel) rfl rfl (x_call_ok (ws := [1, 1]) (Nat.le_of_ble_eq_true rfl) rfl (by decide +kernel) rfl (by decide +kernel) rfl rfl) ho
theorem i164_13 : m_G 164 13 L (.int x0 :: st) μ = if x0 = 0 then m_G 164 24 L st μ else m_G 164 16 L st μ := g_ifeq (off := 11) (by decide +kernel) (by decide)
theorem i164_16 : m_G 164 16 [.ref a0, v1, v2, v3, v4, v5] st μ = m_G 164 17 [.ref a0, v1, v2, v3, v4, v5] (.ref a0 :: st) μ := g_aload_n (i := 0) (by decide +kernel) rfl
theorem i164_17 : m_G 164 17 [v0, v1, v2, .int x0, v4, v5] st μ = m_G 164 18 [v0, v1, v2, .int x0, v4, v5] (.int x0 :: st) μ := g_iload_n (i := 3) (by decide +kernel) rfl
theorem i164_18 (ho : m_oc μ a0 = some 9) : m_G 164 18 L (.int x0 :: .ref a0 :: []) μ = b_c (m_D 105 [.ref a0, .int x0] μ) 164 21 L [] := g_virt (i := 106) (n := 1) (a := a0) (c := 9) (l := [(9, 105)]) (by decide +kernel) (by decide +kernel) rfl rfl (x_call_ok (ws := [1, 1]) (Nat.le_of_ble_eq_true rfl) rfl (by decide +kernel) rfl (by decide +kernel) rfl rfl) ho
theorem i164_21 : m_G 164 21 L (.int x0 :: st) μ = if x0 = 0 then m_G 164 24 L st μ else m_G 164 27 L st μ := g_ifne (off := 6) (by decide +kernel) (by decide)
theorem i164_24 : m_G 164 24 L st μ = m_G 164 26 L (.int (-101) :: st) μ := g_bipush (n := -101) (by decide +kernel) (by decide)
theorem i164_26 : m_G 164 26 L [.int x0] μ = some (some (.int x0), μ) := g_ireti (by decide +kernel) (by decide)
theorem i164_27 : m_G 164 27 [.ref a0, v1, v2, v3, v4, v5] st μ = m_G 164 28 [.ref a0, v1, v2, v3, v4, v5] (.ref a0 :: st) μ := g_aload_n (i := 0) (by decide +kernel) rfl
theorem i164_28 : m_G 164 28 [v0, .int x0, v2, v3, v4, v5] st μ = m_G 164 29 [v0, .int x0, v2, v3, v4, v5] (.int x0 :: st) μ := g_iload_n (i := 1) (by decide +kernel) rfl
theorem i164_29 : m_G 164 29 [v0, v1, v2, .int x0, v4, v5] st μ = m_G 164 30 [v0, v1, v2, .int x0, v4, v5] (.int x0 :: st) μ := g_iload_n (i := 3) (by decide +kernel) rfl
theorem i164_30 (ho : m_oc μ a0 = some 9) : m_G 164 30 L (.int x1 :: .int x0 :: .ref a0 :: []) μ = b_c (m_D 127 [.ref a0, .int x0, .int x1] μ) 164 33 L [] := g_virt (i := 187) (n := 2) (a := a0) (c := 9) (l := [(9, 127)]) (by decide +kernel) (by decide +kernel) rfl rfl (x_call_ok (ws := [1, 1, 1]) (Nat.le_of_ble_eq_true rfl) rfl (by decide +kernel) rfl (by decide +kernel) rfl rfl) ho
theorem i164_33 : m_G 164 33 [v0, v1, v2, v3, .int x0, v5] st μ = m_G 164 35 [v0, v1, v2, v3, .int x0, v5] (.int x0 :: st) μ := g_iload (i := 4) (by decide +kernel) rfl
theorem i164_35 : m_G 164 35 L (.int x1 :: .int x0 :: []) μ = b_c (m_D 129 [.int x0, .int x1] μ) 164 38 L [] := g_stat (i := 190) (n := 2) (by decide +kernel) (by decide +kernel) (by decide) (x_call_ok (ws := [1, 1]) (Nat.le_of_ble_eq_true rfl) rfl (by decide +kernel) rfl (by decide +kernel) rfl rfl)
theorem i164_38 : m_G 164 38 [v0, v1, v2, v3, v4, v5] (.int x0 :: st) μ = m_G 164 40 [v0, v1, v2, v3, v4, .int x0] st μ := g_istore (i := 5) (by decide +kernel) (Nat.le_of_ble_eq_true rfl) rfl
theorem i164_40 : m_G 164 40 [v0, v1, v2, v3, v4, .int x0] st μ = m_G 164 42 [v0, v1, v2, v3, v4, .int x0] (.int x0 :: st) μ := g_iload (i := 5) (by decide +kernel) rfl
theorem i164_42 : m_G 164 42 L st μ = m_G 164 43 L (.int (-1) :: st) μ := g_iconst (n := -1) (by decide +kernel) (by decide)
theorem i164_43 : m_G 164 43 L (.int x1 :: .int x0 :: st) μ = if x0 = x1 then m_G 164 46 L st μ else m_G 164 51 L st μ := g_cmpne (off := 8) (by decide +kernel) (by decide)
theorem i164_46 : m_G 164 46 L st μ = m_G 164 48 L (.int (-2) :: st) μ := g_bipush (n := -2) (by decide +kernel) (by decide)
theorem i164_48 : m_G 164 48 L st μ = m_G 164 59 L st μ := g_goto (off := 11) (by decide +kernel) (by decide)
theorem i164_51 : m_G 164 51 [.ref a0, v1, v2, v3, v4, v5] st μ = m_G 164 52 [.ref a0, v1, v2, v3, v4, v5] (.ref a0 :: st) μ := g_aload_n (i := 0) (by decide +kernel) rfl
theorem i164_52 : m_G 164 52 [v0, v1, .int x0, v3, v4, v5] st μ = m_G 164 53 [v0, v1, .int x0, v3, v4, v5] (.int x0 :: st) μ := g_iload_n (i := 2) (by decide +kernel) rfl
theorem i164_53 : m_G 164 53 [v0, v1, v2, .int x0, v4, v5] st μ = m_G 164 54 [v0, v1, v2, .int x0, v4, v5] (.int x0 :: st) μ := g_iload_n (i := 3) (by decide +kernel) rfl
theorem i164_54 : m_G 164 54 [v0, v1, v2, v3, v4, .int x0] st μ = m_G 164 56 [v0, v1, v2, v3, v4, .int x0] (.int x0 :: st) μ := g_iload (i := 5) (by decide +kernel) rfl
theorem i164_56 (ho : m_oc μ a0 = some 9) : m_G 164 56 L (.int x2 :: .int x1 :: .int x0 :: .ref a0 :: []) μ = b_c (m_D 162 [.ref a0, .int x0, .int x1, .int x2] μ) 164 59 L [] := g_virt (i := 272) (n := 3) (a := a0) (c := 9) (l := [(9, 162)]) (by decide +kernel) (by decide +kernel) rfl rfl (x_call_ok (ws := [1, 1, 1, 1]) (Nat.le_of_ble_eq_true rfl) rfl (by decide +kernel) rfl (by decide +kernel) rfl rfl) ho
theorem i164_59 : m_G 164 59 L [.int x0] μ = some (some (.int x0), μ) := g_ireti (by decide +kernel) (by decide)
theorem D164 : m_D 164 [.ref a0, .int x0, .int x1, .int x2, .int x3] μ = m_G 164 0 [.ref a0, .int x0, .int x1, .int x2, .int x3, m_d] [] μ := d_def (by decide) rfl
theorem i165_0 : m_G 165 0 L st μ = m_G 165 1 L (.int 0 :: st) μ := g_iconst (n := 0) (by decide +kernel) (by decide)
theorem i165_1 : m_G 165 1 [v0, v1, v2, v3] (.int x0 :: st) μ = m_G 165 2 [v0, v1, .int x0, v3] st μ := g_istore_n (i := 2) (by decide +kernel) (Nat.le_of_ble_eq_true rfl) rfl
theorem i165_2 : m_G 165 2 L st μ = m_G 165 3 L (.int 0 :: st) μ := g_iconst (n := 0) (by decide +kernel) (by decide)
theorem i165_3 : m_G 165 3 [v0, v1, v2, v3] (.int x0 :: st) μ = m_G 165 4 [v0, v1, v2, .int x0] st μ := g_istore_n (i := 3) (by decide +kernel) (Nat.le_of_ble_eq_true rfl) rfl
theorem i165_4 : m_G 165 4 [v0, v1, v2, .int x0] st μ = m_G 165 5 [v0, v1, v2, .int x0] (.int x0 :: st) μ := g_iload_n (i := 3) (by decide +kernel) rfl
theorem i165_5 : m_G 165 5 [.ref a0, v1, v2, v3] st μ = m_G 165 6 [.ref a0, v1, v2, v3] (.ref a0 :: st) μ := g_aload_n (i := 0) (by decide +kernel) rfl
theorem i165_6 : m_G 165 6 L (.ref a0 :: st) μ = b_v (m_gf μ a0 9 0) 165 9 L st μ := g_getf (i := 99) (by decide +kernel) (by decide +kernel)
theorem i165_9 : m_G 165 9 L (.int x1 :: .int x0 :: st) μ = if x0 < x1 then m_G 165 12 L st μ else m_G 165 61 L st μ := g_cmpge (off := 52) (by decide +kernel) (by decide)
theorem i165_12 : m_G 165 12 [v0, v1, .int x0, v3] st μ = m_G 165 13 [v0, v1, .int x0, v3] (.int x0 :: st) μ := g_iload_n (i := 2) (by decide +kernel) rfl
theorem i165_13 : m_G 165 13 [v0, .int x0, v2, v3] st μ = m_G 165 14 [v0, .int x0, v2, v3] (.int x0 :: st) μ := g_iload_n (i := 1) (by decide +kernel) rfl
theorem i165_14 : m_G 165 14 L st μ = m_G 165 15 L (.int 4 :: st) μ := g_iconst (n := 4) (by decide +kernel) (by decide)
theorem i165_15 : m_G 165 15 L (.int x1 :: .int x0 :: st) μ = if x0 = x1 then m_G 165 18 L st μ else m_G 165 30 L st μ := g_cmpne (off := 15) (by decide +kernel) (by decide)
theorem i165_18 : m_G 165 18 [.ref a0, v1, v2, v3] st μ = m_G 165 19 [.ref a0, v1, v2, v3] (.ref a0 :: st) μ := g_aload_n (i := 0) (by decide +kernel) rfl
theorem i165_19 : m_G 165 19 [v0, v1, v2, .int x0] st μ = m_G 165 20 [v0, v1, v2, .int x0] (.int x0 :: st) μ := g_iload_n (i := 3) (by decide +kernel) rfl
theorem i165_20 : m_G 165 20 L st μ = m_G 165 21 L (.int 1 :: st) μ := g_iconst (n := 1) (by decide +kernel) (by decide)
theorem i165_21 (ho : m_oc μ a0 = some 9) : m_G 165 21 L (.int x1 :: .int x0 :: .ref a0 :: [w0]) μ = b_c (m_D 134 [.ref a0, .int x0, .int x1] μ) 165 24 L [w0] := g_virt (i := 207) (n := 2) (a := a0) (c := 9) (l := [(9, 134)]) (by decide +kernel) (by decide +kernel) rfl rfl (x_call_ok (ws := [1, 1, 1]) (Nat.le_of_ble_eq_true rfl) rfl (by decide +kernel) rfl (by decide +kernel) rfl rfl) ho
theorem i165_24 : m_G 165 24 L (.int x0 :: [w0]) μ = b_c (m_D 103 [.int x0] μ) 165 27 L [w0] := g_stat (i := 216) (n := 1) (by decide +kernel) (by decide +kernel) (by decide) (x_call_ok (ws := [1]) (Nat.le_of_ble_eq_true rfl) rfl (by decide +kernel) rfl (by decide +kernel) rfl rfl)
theorem i165_27 : m_G 165 27 L st μ = m_G 165 53 L st μ := g_goto (off := 26) (by decide +kernel) (by decide)
theorem i165_30 : m_G 165 30 [v0, .int x0, v2, v3] st μ = m_G 165 31 [v0, .int x0, v2, v3] (.int x0 :: st) μ := g_iload_n (i := 1) (by decide +kernel) rfl
theorem i165_31 : m_G 165 31 L st μ = m_G 165 32 L (.int 5 :: st) μ := g_iconst (n := 5) (by decide +kernel) (by decide)
theorem i165_32 : m_G 165 32 L (.int x1 :: .int x0 :: st) μ = if x0 = x1 then m_G 165 35 L st μ else m_G 165 47 L st μ := g_cmpne (off := 15) (by decide +kernel) (by decide)
theorem i165_35 : m_G 165 35 [.ref a0, v1, v2, v3] st μ = m_G 165 36 [.ref a0, v1, v2, v3] (.ref a0 :: st) μ := g_aload_n (i := 0) (by decide +kernel) rfl
theorem i165_36 : m_G 165 36 [v0, v1, v2, .int x0] st μ = m_G 165 37 [v0, v1, v2, .int x0] (.int x0 :: st) μ := g_iload_n (i := 3) (by decide +kernel) rfl
theorem i165_37 : m_G 165 37 L st μ = m_G 165 38 L (.int 2 :: st) μ := g_iconst (n := 2) (by decide +kernel) (by decide)
theorem i165_38 (ho : m_oc μ a0 = some 9) : m_G 165 38 L (.int x1 :: .int x0 :: .ref a0 :: [w0]) μ = b_c (m_D 134 [.ref a0, .int x0, .int x1] μ) 165 41 L [w0] := g_virt (i := 207) (n := 2) (a := a0) (c := 9) (l := [(9, 134)]) (by decide +kernel) (by decide +kernel) rfl rfl (x_call_ok (ws := [1, 1, 1]) (Nat.le_of_ble_eq_true rfl) rfl (by decide +kernel) rfl (by decide +kernel) rfl rfl) ho
theorem i165_41 : m_G 165 41 L (.int x0 :: [w0]) μ = b_c (m_D 103 [.int x0] μ) 165 44 L [w0] := g_stat (i := 216) (n := 1) (by decide +kernel) (by decide +kernel) (by decide) (x_call_ok (ws := [1]) (Nat.le_of_ble_eq_true rfl) rfl (by decide +kernel) rfl (by decide +kernel) rfl rfl)
theorem i165_44 : m_G 165 44 L st μ = m_G 165 53 L st μ := g_goto (off := 9) (by decide +kernel) (by decide)
theorem i165_47 : m_G 165 47 [.ref a0, v1, v2, v3] st μ = m_G 165 48 [.ref a0, v1, v2, v3] (.ref a0 :: st) μ := g_aload_n (i := 0) (by decide +kernel) rfl
theorem i165_48 : m_G 165 48 L (.ref a0 :: st) μ = b_v (m_gf μ a0 9 1) 165 51 L st μ := g_getf (i := 7) (by decide +kernel) (by decide +kernel)
theorem i165_51 : m_G 165 51 [v0, v1, v2, .int x0] st μ = m_G 165 52 [v0, v1, v2, .int x0] (.int x0 :: st) μ := g_iload_n (i := 3) (by decide +kernel) rfl
theorem i165_52 : m_G 165 52 L (.int x0 :: .ref a0 :: st) μ = b_i (m_ga μ a0 x0) 165 53 L st μ := g_iald (by decide +kernel)
theorem i165_53 : m_G 165 53 L (.int x1 :: .int x0 :: st) μ = m_G 165 54 L (.int (x0 + x1) :: st) μ := g_iadd (by decide +kernel)
theorem i165_54 : m_G 165 54 [v0, v1, v2, v3] (.int x0 :: st) μ = m_G 165 55 [v0, v1, .int x0, v3] st μ := g_istore_n (i := 2) (by decide +kernel) (Nat.le_of_ble_eq_true rfl) rfl
theorem i165_55 : m_G 165 55 [v0, v1, v2, .int x0] st μ = m_G 165 58 [v0, v1, v2, .int (x0 + 1)] st μ := g_iinc (i := 3) (n := 1) (by decide +kernel) rfl (by decide) rfl
theorem i165_58 : m_G 165 58 L st μ = m_G 165 4 L st μ := g_goto (off := -54) (by decide +kernel) (by decide)
theorem i165_61 : m_G 165 61 [v0, .int x0, v2, v3] st μ = m_G 165 62 [v0, .int x0, v2, v3] (.int x0 :: st) μ := g_iload_n (i := 1) (by decide +kernel) rfl
theorem i165_62_0 : m_G 165 62 L (.int 0 :: st) μ = m_G 165 104 L st μ := g_tab (dd := 64) (lo := 0) (hi := 6) (offs := #[42, 47, 52, 57, 62, 62, 62]) (len := 42) (off := 42) (by decide +kernel) (by decide) (by decide) (by decide)
theorem i165_62_1 : m_G 165 62 L (.int 1 :: st) μ = m_G 165 109 L st μ := g_tab (dd := 64) (lo := 0) (hi := 6) (offs := #[42, 47, 52, 57, 62, 62, 62]) (len := 42) (off := 47) (by decide +kernel) (by decide) (by decide) (by decide)
theorem i165_62_2 : m_G 165 62 L (.int 2 :: st) μ = m_G 165 114 L st μ := g_tab (dd := 64) (lo := 0) (hi := 6) (offs := #[42, 47, 52, 57, 62, 62, 62]) (len := 42) (off := 52) (by decide +kernel) (by decide) (by decide) (by decide)
theorem i165_62_3 : m_G 165 62 L (.int 3 :: st) μ = m_G 165 119 L st μ := g_tab (dd := 64) (lo := 0) (hi := 6) (offs := #[42, 47, 52, 57, 62, 62, 62]) (len := 42) (off := 57) (by decide +kernel) (by decide) (by decide) (by decide)
theorem i165_62_4 : m_G 165 62 L (.int 4 :: st) μ = m_G 165 124 L st μ := g_tab (dd := 64) (lo := 0) (hi := 6) (offs := #[42, 47, 52, 57, 62, 62, 62]) (len := 42) (off := 62) (by decide +kernel) (by decide) (by decide) (by decide)
theorem i165_62_5 : m_G 165 62 L (.int 5 :: st) μ = m_G 165 124 L st μ := g_tab (dd := 64) (lo := 0) (hi := 6) (offs := #[42, 47, 52, 57, 62, 62, 62]) (len := 42) (off := 62) (by decide +kernel) (by decide) (by decide) (by decide)
theorem i165_62_6 : m_G 165 62 L (.int 6 :: st) μ = m_G 165 124 L st μ := g_tab (dd := 64) (lo := 0) (hi := 6) (offs := #[42, 47, 52, 57, 62, 62, 62]) (len := 42) (off := 62) (by decide +kernel) (by decide) (by decide) (by decide)
theorem i165_62_d (h : x0.toInt < 0 ∨ 6 < x0.toInt) : m_G 165 62 L (.int x0 :: st) μ = m_G 165 126 L st μ := g_tabO (dd := 64) (lo := 0) (hi := 6) (offs := #[42, 47, 52, 57, 62, 62, 62]) (len := 42) (by decide +kernel) h (by decide)
theorem i165_104 : m_G 165 104 [.ref a0, v1, v2, v3] st μ = m_G 165 105 [.ref a0, v1, v2, v3] (.ref a0 :: st) μ := g_aload_n (i := 0) (by decide +kernel) rfl
theorem i165_105 : m_G 165 105 L (.ref a0 :: st) μ = b_v (m_gf μ a0 9 0) 165 108 L st μ := g_getf (i := 99) (by decide +kernel) (by decide +kernel)
theorem i165_108 : m_G 165 108 L [.int x0] μ = some (some (.int x0), μ) := g_ireti (by decide +kernel) (by decide)
theorem i165_109 : m_G 165 109 [.ref a0, v1, v2, v3] st μ = m_G 165 110 [.ref a0, v1, v2, v3] (.ref a0 :: st) μ := g_aload_n (i := 0) (by decide +kernel) rfl
theorem i165_110 : m_G 165 110 L (.ref a0 :: st) μ = b_v (m_gf μ a0 9 17) 165 113 L st μ := g_getf (i := 151) (by decide +kernel) (by decide +kernel)
theorem i165_113 : m_G 165 113 L [.int x0] μ = some (some (.int x0), μ) := g_ireti (by decide +kernel) (by decide)
theorem i165_114 : m_G 165 114 [.ref a0, v1, v2, v3] st μ = m_G 165 115 [.ref a0, v1, v2, v3] (.ref a0 :: st) μ := g_aload_n (i := 0) (by decide +kernel) rfl
theorem i165_115 : m_G 165 115 L (.ref a0 :: st) μ = b_v (m_gf μ a0 9 27) 165 118 L st μ := g_getf (i := 235) (by decide +kernel) (by decide +kernel)
theorem i165_118 : m_G 165 118 L [.int x0] μ = some (some (.int x0), μ) := g_ireti (by decide +kernel) (by decide)
theorem i165_119 : m_G 165 119 [.ref a0, v1, v2, v3] st μ = m_G 165 120 [.ref a0, v1, v2, v3] (.ref a0 :: st) μ := g_aload_n (i := 0) (by decide +kernel) rfl
theorem i165_120 : m_G 165 120 L (.ref a0 :: st) μ = b_v (m_gf μ a0 9 8) 165 123 L st μ := g_getf (i := 112) (by decide +kernel) (by decide +kernel)
theorem i165_123 : m_G 165 123 L [.int x0] μ = some (some (.int x0), μ) := g_ireti (by decide +kernel) (by decide)
theorem i165_124 : m_G 165 124 [v0, v1, .int x0, v3] st μ = m_G 165 125 [v0, v1, .int x0, v3] (.int x0 :: st) μ := g_iload_n (i := 2) (by decide +kernel) rfl
theorem i165_125 : m_G 165 125 L [.int x0] μ = some (some (.int x0), μ) := g_ireti (by decide +kernel) (by decide)
theorem i165_126 : m_G 165 126 L st μ = m_G 165 128 L (.int (-102) :: st) μ := g_bipush (n := -102) (by decide +kernel) (by decide)
theorem i165_128 : m_G 165 128 L [.int x0] μ = some (some (.int x0), μ) := g_ireti (by decide +kernel) (by decide)
theorem D165 : m_D 165 [.ref a0, .int x0] μ = m_G 165 0 [.ref a0, .int x0, m_d, m_d] [] μ := d_def (by decide) rfl
theorem i166_0 : m_G 166 0 [.ref a0, v1] st μ = m_G 166 1 [.ref a0, v1] (.ref a0 :: st) μ := g_aload_n (i := 0) (by decide +kernel) rfl
theorem i166_1 : m_G 166 1 [v0, .int x0] st μ = m_G 166 2 [v0, .int x0] (.int x0 :: st) μ := g_iload_n (i := 1) (by decide +kernel) rfl
theorem i166_2 (ho : m_oc μ a0 = some 9) : m_G 166 2 L (.int x0 :: .ref a0 :: []) μ = b_c (m_D 165 [.ref a0, .int x0] μ) 166 5 L [] := g_virt (i := 275) (n := 1) (a := a0) (c := 9) (l := [(9, 165)]) (by decide +kernel) (by decide +kernel) rfl rfl (x_call_ok (ws := [1, 1]) (Nat.le_of_ble_eq_true rfl) rfl (by decide +kernel) rfl (by decide +kernel) rfl rfl) ho
theorem i166_5 : m_G 166 5 L [.int x0] μ = some (some (.int x0), μ) := g_ireti (by decide +kernel) (by decide)
theorem D166 : m_D 166 [.ref a0, .int x0] μ = m_G 166 0 [.ref a0, .int x0] [] μ := d_def (by decide) rfl
theorem i167_0 : m_G 167 0 [.ref a0, v1, v2] st μ = m_G 167 1 [.ref a0, v1, v2] (.ref a0 :: st) μ := g_aload_n (i := 0) (by decide +kernel) rfl
theorem i167_1 : m_G 167 1 L st μ = m_G 167 4 L (.long (31) :: st) μ := g_ldc2_w (i := 278) (by decide +kernel) (by decide +kernel)
theorem i167_4 : m_G 167 4 [.ref a0, v1, v2] st μ = m_G 167 5 [.ref a0, v1, v2] (.ref a0 :: st) μ := g_aload_n (i := 0) (by decide +kernel) rfl
theorem i167_5 : m_G 167 5 L (.ref a0 :: st) μ = b_v (m_gf μ a0 9 37) 167 8 L st μ := g_getf (i := 280) (by decide +kernel) (by decide +kernel)
theorem i167_8 : m_G 167 8 L (.long l1 :: .long l0 :: st) μ = m_G 167 9 L (.long (l0 * l1) :: st) μ := g_lmul (by decide +kernel)
theorem i167_9 : m_G 167 9 [v0, .long l0, v2] st μ = m_G 167 10 [v0, .long l0, v2] (.long l0 :: st) μ := g_lload_n (i := 1) (by decide +kernel) rfl
theorem i167_10 : m_G 167 10 L (.long l1 :: .long l0 :: st) μ = m_G 167 11 L (.long (l0 + l1) :: st) μ := g_ladd (by decide +kernel)
theorem i167_11 : m_G 167 11 L (w0 :: .ref a0 :: st) μ = b_m (m_pf μ a0 9 37 .long w0) 167 14 L st := g_putf (i := 280) (by decide +kernel) (by decide +kernel) (Or.inl (by decide)) (by decide)
theorem i167_14 : m_G 167 14 L [] μ = some (none, μ) := g_ret (by decide +kernel) (by decide)
theorem D167 : m_D 167 [.ref a0, .long l0] μ = m_G 167 0 [.ref a0, .long l0, m_d] [] μ := d_def (by decide) rfl
theorem i168_0 : m_G 168 0 [.ref a0, v1, v2] st μ = m_G 168 1 [.ref a0, v1, v2] (.ref a0 :: st) μ := g_aload_n (i := 0) (by decide +kernel) rfl
theorem i168_1 : m_G 168 1 L st μ = m_G 168 4 L (.long (331) :: st) μ := g_ldc2_w (i := 284) (by decide +kernel) (by decide +kernel)
theorem i168_4 : m_G 168 4 L (w0 :: .ref a0 :: st) μ = b_m (m_pf μ a0 9 37 .long w0) 168 7 L st := g_putf (i := 280) (by decide +kernel) (by decide +kernel) (Or.inl (by decide)) (by decide)
theorem i168_7 : m_G 168 7 L st μ = m_G 168 8 L (.int 0 :: st) μ := g_iconst (n := 0) (by decide +kernel) (by decide)
theorem i168_8 : m_G 168 8 [v0, v1, v2] (.int x0 :: st) μ = m_G 168 9 [v0, .int x0, v2] st μ := g_istore_n (i := 1) (by decide +kernel) (Nat.le_of_ble_eq_true rfl) rfl
theorem i168_9 : m_G 168 9 [v0, .int x0, v2] st μ = m_G 168 10 [v0, .int x0, v2] (.int x0 :: st) μ := g_iload_n (i := 1) (by decide +kernel) rfl
theorem i168_10 : m_G 168 10 [.ref a0, v1, v2] st μ = m_G 168 11 [.ref a0, v1, v2] (.ref a0 :: st) μ := g_aload_n (i := 0) (by decide +kernel) rfl
theorem i168_11 : m_G 168 11 L (.ref a0 :: st) μ = b_v (m_gf μ a0 9 0) 168 14 L st μ := g_getf (i := 99) (by decide +kernel) (by decide +kernel)
theorem i168_14 : m_G 168 14 L (.int x1 :: .int x0 :: st) μ = if x0 < x1 then m_G 168 17 L st μ else m_G 168 134 L st μ := g_cmpge (off := 120) (by decide +kernel) (by decide)
theorem i168_17 : m_G 168 17 L st μ = m_G 168 18 L (.int 0 :: st) μ := g_iconst (n := 0) (by decide +kernel) (by decide)
theorem i168_18 : m_G 168 18 [v0, v1, v2] (.int x0 :: st) μ = m_G 168 19 [v0, v1, .int x0] st μ := g_istore_n (i := 2) (by decide +kernel) (Nat.le_of_ble_eq_true rfl) rfl
theorem i168_19 : m_G 168 19 [v0, v1, .int x0] st μ = m_G 168 20 [v0, v1, .int x0] (.int x0 :: st) μ := g_iload_n (i := 2) (by decide +kernel) rfl
theorem i168_20 : m_G 168 20 [.ref a0, v1, v2] st μ = m_G 168 21 [.ref a0, v1, v2] (.ref a0 :: st) μ := g_aload_n (i := 0) (by decide +kernel) rfl
theorem i168_21 : m_G 168 21 L (.ref a0 :: st) μ = b_v (m_gf μ a0 9 1) 168 24 L st μ := g_getf (i := 7) (by decide +kernel) (by decide +kernel)
theorem i168_24 : m_G 168 24 [v0, .int x0, v2] st μ = m_G 168 25 [v0, .int x0, v2] (.int x0 :: st) μ := g_iload_n (i := 1) (by decide +kernel) rfl
theorem i168_25 : m_G 168 25 L (.int x0 :: .ref a0 :: st) μ = b_i (m_ga μ a0 x0) 168 26 L st μ := g_iald (by decide +kernel)
theorem i168_26 : m_G 168 26 L (.int x1 :: .int x0 :: st) μ = if x0 < x1 then m_G 168 29 L st μ else m_G 168 99 L st μ := g_cmpge (off := 73) (by decide +kernel) (by decide)
theorem i168_29 : m_G 168 29 [.ref a0, v1, v2] st μ = m_G 168 30 [.ref a0, v1, v2] (.ref a0 :: st) μ := g_aload_n (i := 0) (by decide +kernel) rfl
theorem i168_30 : m_G 168 30 [.ref a0, v1, v2] st μ = m_G 168 31 [.ref a0, v1, v2] (.ref a0 :: st) μ := g_aload_n (i := 0) (by decide +kernel) rfl
theorem i168_31 : m_G 168 31 L (.ref a0 :: st) μ = b_v (m_gf μ a0 9 2) 168 34 L st μ := g_getf (i := 13) (by decide +kernel) (by decide +kernel)
theorem i168_34 : m_G 168 34 L st μ = m_G 168 36 L (.int 24 :: st) μ := g_bipush (n := 24) (by decide +kernel) (by decide)
theorem i168_36 : m_G 168 36 [v0, .int x0, v2] st μ = m_G 168 37 [v0, .int x0, v2] (.int x0 :: st) μ := g_iload_n (i := 1) (by decide +kernel) rfl
theorem i168_37 : m_G 168 37 L (.int x1 :: .int x0 :: st) μ = m_G 168 38 L (.int (x0 * x1) :: st) μ := g_imul (by decide +kernel)
theorem i168_38 : m_G 168 38 [v0, v1, .int x0] st μ = m_G 168 39 [v0, v1, .int x0] (.int x0 :: st) μ := g_iload_n (i := 2) (by decide +kernel) rfl
theorem i168_39 : m_G 168 39 L (.int x1 :: .int x0 :: st) μ = m_G 168 40 L (.int (x0 + x1) :: st) μ := g_iadd (by decide +kernel)
theorem i168_40 : m_G 168 40 L (.int x0 :: .ref a0 :: st) μ = b_i (m_ga μ a0 x0) 168 41 L st μ := g_iald (by decide +kernel)
theorem i168_41 : m_G 168 41 L (.int x0 :: st) μ = m_G 168 42 L (.long x0.toInt64 :: st) μ := g_i2l (by decide +kernel)
theorem i168_42 (ho : m_oc μ a0 = some 9) : m_G 168 42 L (.long l0 :: .ref a0 :: []) μ = b_c (m_D 167 [.ref a0, .long l0] μ) 168 45 L [] := g_virt (i := 286) (n := 1) (a := a0) (c := 9) (l := [(9, 167)]) (by decide +kernel) (by decide +kernel) rfl rfl (x_call_ok (ws := [1, 2]) (Nat.le_of_ble_eq_true rfl) rfl (by decide +kernel) rfl (by decide +kernel) rfl rfl) ho
theorem i168_45 : m_G 168 45 [.ref a0, v1, v2] st μ = m_G 168 46 [.ref a0, v1, v2] (.ref a0 :: st) μ := g_aload_n (i := 0) (by decide +kernel) rfl
theorem i168_46 : m_G 168 46 [.ref a0, v1, v2] st μ = m_G 168 47 [.ref a0, v1, v2] (.ref a0 :: st) μ := g_aload_n (i := 0) (by decide +kernel) rfl
theorem i168_47 : m_G 168 47 L (.ref a0 :: st) μ = b_v (m_gf μ a0 9 3) 168 50 L st μ := g_getf (i := 16) (by decide +kernel) (by decide +kernel)
theorem i168_50 : m_G 168 50 L st μ = m_G 168 52 L (.int 24 :: st) μ := g_bipush (n := 24) (by decide +kernel) (by decide)
theorem i168_52 : m_G 168 52 [v0, .int x0, v2] st μ = m_G 168 53 [v0, .int x0, v2] (.int x0 :: st) μ := g_iload_n (i := 1) (by decide +kernel) rfl
theorem i168_53 : m_G 168 53 L (.int x1 :: .int x0 :: st) μ = m_G 168 54 L (.int (x0 * x1) :: st) μ := g_imul (by decide +kernel)
theorem i168_54 : m_G 168 54 [v0, v1, .int x0] st μ = m_G 168 55 [v0, v1, .int x0] (.int x0 :: st) μ := g_iload_n (i := 2) (by decide +kernel) rfl
theorem i168_55 : m_G 168 55 L (.int x1 :: .int x0 :: st) μ = m_G 168 56 L (.int (x0 + x1) :: st) μ := g_iadd (by decide +kernel)
theorem i168_56 : m_G 168 56 L (.int x0 :: .ref a0 :: st) μ = b_i (m_ga μ a0 x0) 168 57 L st μ := g_iald (by decide +kernel)
theorem i168_57 : m_G 168 57 L (.int x0 :: st) μ = m_G 168 58 L (.long x0.toInt64 :: st) μ := g_i2l (by decide +kernel)
theorem i168_58 (ho : m_oc μ a0 = some 9) : m_G 168 58 L (.long l0 :: .ref a0 :: []) μ = b_c (m_D 167 [.ref a0, .long l0] μ) 168 61 L [] := g_virt (i := 286) (n := 1) (a := a0) (c := 9) (l := [(9, 167)]) (by decide +kernel) (by decide +kernel) rfl rfl (x_call_ok (ws := [1, 2]) (Nat.le_of_ble_eq_true rfl) rfl (by decide +kernel) rfl (by decide +kernel) rfl rfl) ho
theorem i168_61 : m_G 168 61 [.ref a0, v1, v2] st μ = m_G 168 62 [.ref a0, v1, v2] (.ref a0 :: st) μ := g_aload_n (i := 0) (by decide +kernel) rfl
theorem i168_62 : m_G 168 62 [.ref a0, v1, v2] st μ = m_G 168 63 [.ref a0, v1, v2] (.ref a0 :: st) μ := g_aload_n (i := 0) (by decide +kernel) rfl
theorem i168_63 : m_G 168 63 L (.ref a0 :: st) μ = b_v (m_gf μ a0 9 4) 168 66 L st μ := g_getf (i := 19) (by decide +kernel) (by decide +kernel)
theorem i168_66 : m_G 168 66 L st μ = m_G 168 68 L (.int 24 :: st) μ := g_bipush (n := 24) (by decide +kernel) (by decide)
theorem i168_68 : m_G 168 68 [v0, .int x0, v2] st μ = m_G 168 69 [v0, .int x0, v2] (.int x0 :: st) μ := g_iload_n (i := 1) (by decide +kernel) rfl
theorem i168_69 : m_G 168 69 L (.int x1 :: .int x0 :: st) μ = m_G 168 70 L (.int (x0 * x1) :: st) μ := g_imul (by decide +kernel)
theorem i168_70 : m_G 168 70 [v0, v1, .int x0] st μ = m_G 168 71 [v0, v1, .int x0] (.int x0 :: st) μ := g_iload_n (i := 2) (by decide +kernel) rfl
theorem i168_71 : m_G 168 71 L (.int x1 :: .int x0 :: st) μ = m_G 168 72 L (.int (x0 + x1) :: st) μ := g_iadd (by decide +kernel)
theorem i168_72 : m_G 168 72 L (.int x0 :: .ref a0 :: st) μ = b_i (m_ga μ a0 x0) 168 73 L st μ := g_iald (by decide +kernel)
theorem i168_73 : m_G 168 73 L (.int x0 :: st) μ = m_G 168 74 L (.long x0.toInt64 :: st) μ := g_i2l (by decide +kernel)
theorem i168_74 (ho : m_oc μ a0 = some 9) : m_G 168 74 L (.long l0 :: .ref a0 :: []) μ = b_c (m_D 167 [.ref a0, .long l0] μ) 168 77 L [] := g_virt (i := 286) (n := 1) (a := a0) (c := 9) (l := [(9, 167)]) (by decide +kernel) (by decide +kernel) rfl rfl (x_call_ok (ws := [1, 2]) (Nat.le_of_ble_eq_true rfl) rfl (by decide +kernel) rfl (by decide +kernel) rfl rfl) ho
theorem i168_77 : m_G 168 77 [.ref a0, v1, v2] st μ = m_G 168 78 [.ref a0, v1, v2] (.ref a0 :: st) μ := g_aload_n (i := 0) (by decide +kernel) rfl
theorem i168_78 : m_G 168 78 [.ref a0, v1, v2] st μ = m_G 168 79 [.ref a0, v1, v2] (.ref a0 :: st) μ := g_aload_n (i := 0) (by decide +kernel) rfl
theorem i168_79 : m_G 168 79 L (.ref a0 :: st) μ = b_v (m_gf μ a0 9 5) 168 82 L st μ := g_getf (i := 22) (by decide +kernel) (by decide +kernel)
theorem i168_82 : m_G 168 82 L st μ = m_G 168 84 L (.int 24 :: st) μ := g_bipush (n := 24) (by decide +kernel) (by decide)
theorem i168_84 : m_G 168 84 [v0, .int x0, v2] st μ = m_G 168 85 [v0, .int x0, v2] (.int x0 :: st) μ := g_iload_n (i := 1) (by decide +kernel) rfl
theorem i168_85 : m_G 168 85 L (.int x1 :: .int x0 :: st) μ = m_G 168 86 L (.int (x0 * x1) :: st) μ := g_imul (by decide +kernel)
theorem i168_86 : m_G 168 86 [v0, v1, .int x0] st μ = m_G 168 87 [v0, v1, .int x0] (.int x0 :: st) μ := g_iload_n (i := 2) (by decide +kernel) rfl
theorem i168_87 : m_G 168 87 L (.int x1 :: .int x0 :: st) μ = m_G 168 88 L (.int (x0 + x1) :: st) μ := g_iadd (by decide +kernel)
theorem i168_88 : m_G 168 88 L (.int x0 :: .ref a0 :: st) μ = b_i (m_ga μ a0 x0) 168 89 L st μ := g_iald (by decide +kernel)
theorem i168_89 : m_G 168 89 L (.int x0 :: st) μ = m_G 168 90 L (.long x0.toInt64 :: st) μ := g_i2l (by decide +kernel)
theorem i168_90 (ho : m_oc μ a0 = some 9) : m_G 168 90 L (.long l0 :: .ref a0 :: []) μ = b_c (m_D 167 [.ref a0, .long l0] μ) 168 93 L [] := g_virt (i := 286) (n := 1) (a := a0) (c := 9) (l := [(9, 167)]) (by decide +kernel) (by decide +kernel) rfl rfl (x_call_ok (ws := [1, 2]) (Nat.le_of_ble_eq_true rfl) rfl (by decide +kernel) rfl (by decide +kernel) rfl rfl) ho
theorem i168_93 : m_G 168 93 [v0, v1, .int x0] st μ = m_G 168 96 [v0, v1, .int (x0 + 1)] st μ := g_iinc (i := 2) (n := 1) (by decide +kernel) rfl (by decide) rfl
theorem i168_96 : m_G 168 96 L st μ = m_G 168 19 L st μ := g_goto (off := -77) (by decide +kernel) (by decide)
theorem i168_99 : m_G 168 99 [.ref a0, v1, v2] st μ = m_G 168 100 [.ref a0, v1, v2] (.ref a0 :: st) μ := g_aload_n (i := 0) (by decide +kernel) rfl
theorem i168_100 : m_G 168 100 [.ref a0, v1, v2] st μ = m_G 168 101 [.ref a0, v1, v2] (.ref a0 :: st) μ := g_aload_n (i := 0) (by decide +kernel) rfl
theorem i168_101 : m_G 168 101 L (.ref a0 :: st) μ = b_v (m_gf μ a0 9 6) 168 104 L st μ := g_getf (i := 25) (by decide +kernel) (by decide +kernel)
theorem i168_104 : m_G 168 104 [v0, .int x0, v2] st μ = m_G 168 105 [v0, .int x0, v2] (.int x0 :: st) μ := g_iload_n (i := 1) (by decide +kernel) rfl
theorem i168_105 : m_G 168 105 L (.int x0 :: .ref a0 :: st) μ = b_i (m_gb μ a0 x0) 168 106 L st μ := g_bald (by decide +kernel)
theorem i168_106 : m_G 168 106 L (.int x0 :: st) μ = if x0 = 0 then m_G 168 113 L st μ else m_G 168 109 L st μ := g_ifeq (off := 7) (by decide +kernel) (by decide)
theorem i168_109 : m_G 168 109 L st μ = m_G 168 110 L (.long 1 :: st) μ := g_lconst (n := 1) (by decide +kernel) (by decide)
theorem i168_110 : m_G 168 110 L st μ = m_G 168 114 L st μ := g_goto (off := 4) (by decide +kernel) (by decide)
theorem i168_113 : m_G 168 113 L st μ = m_G 168 114 L (.long 0 :: st) μ := g_lconst (n := 0) (by decide +kernel) (by decide)
theorem i168_114 (ho : m_oc μ a0 = some 9) : m_G 168 114 L (.long l0 :: .ref a0 :: []) μ = b_c (m_D 167 [.ref a0, .long l0] μ) 168 117 L [] := g_virt (i := 286) (n := 1) (a := a0) (c := 9) (l := [(9, 167)]) (by decide +kernel) (by decide +kernel) rfl rfl (x_call_ok (ws := [1, 2]) (Nat.le_of_ble_eq_true rfl) rfl (by decide +kernel) rfl (by decide +kernel) rfl rfl) ho
theorem i168_117 : m_G 168 117 [.ref a0, v1, v2] st μ = m_G 168 118 [.ref a0, v1, v2] (.ref a0 :: st) μ := g_aload_n (i := 0) (by decide +kernel) rfl
theorem i168_118 : m_G 168 118 [.ref a0, v1, v2] st μ = m_G 168 119 [.ref a0, v1, v2] (.ref a0 :: st) μ := g_aload_n (i := 0) (by decide +kernel) rfl
theorem i168_119 : m_G 168 119 [v0, .int x0, v2] st μ = m_G 168 120 [v0, .int x0, v2] (.int x0 :: st) μ := g_iload_n (i := 1) (by decide +kernel) rfl
theorem i168_120 : m_G 168 120 L st μ = m_G 168 121 L (.int 0 :: st) μ := g_iconst (n := 0) (by decide +kernel) (by decide)
theorem i168_121 (ho : m_oc μ a0 = some 9) : m_G 168 121 L (.int x1 :: .int x0 :: .ref a0 :: [w0]) μ = b_c (m_D 159 [.ref a0, .int x0, .int x1] μ) 168 124 L [w0] := g_virt (i := 267) (n := 2) (a := a0) (c := 9) (l := [(9, 159)]) (by decide +kernel) (by decide +kernel) rfl rfl (x_call_ok (ws := [1, 1, 1]) (Nat.le_of_ble_eq_true rfl) rfl (by decide +kernel) rfl (by decide +kernel) rfl rfl) ho
theorem i168_124 : m_G 168 124 L (.int x0 :: st) μ = m_G 168 125 L (.long x0.toInt64 :: st) μ := g_i2l (by decide +kernel)
theorem i168_125 (ho : m_oc μ a0 = some 9) : m_G 168 125 L (.long l0 :: .ref a0 :: []) μ = b_c (m_D 167 [.ref a0, .long l0] μ) 168 128 L [] := g_virt (i := 286) (n := 1) (a := a0) (c := 9) (l := [(9, 167)]) (by decide +kernel) (by decide +kernel) rfl rfl (x_call_ok (ws := [1, 2]) (Nat.le_of_ble_eq_true rfl) rfl (by decide +kernel) rfl (by decide +kernel) rfl rfl) ho
theorem i168_128 : m_G 168 128 [v0, .int x0, v2] st μ = m_G 168 131 [v0, .int (x0 + 1), v2] st μ := g_iinc (i := 1) (n := 1) (by decide +kernel) rfl (by decide) rfl
theorem i168_131 : m_G 168 131 L st μ = m_G 168 9 L st μ := g_goto (off := -122) (by decide +kernel) (by decide)
theorem i168_134 : m_G 168 134 L st μ = m_G 168 135 L (.int 0 :: st) μ := g_iconst (n := 0) (by decide +kernel) (by decide)
theorem i168_135 : m_G 168 135 [v0, v1, v2] (.int x0 :: st) μ = m_G 168 136 [v0, .int x0, v2] st μ := g_istore_n (i := 1) (by decide +kernel) (Nat.le_of_ble_eq_true rfl) rfl
theorem i168_136 : m_G 168 136 [v0, .int x0, v2] st μ = m_G 168 137 [v0, .int x0, v2] (.int x0 :: st) μ := g_iload_n (i := 1) (by decide +kernel) rfl
theorem i168_137 : m_G 168 137 [.ref a0, v1, v2] st μ = m_G 168 138 [.ref a0, v1, v2] (.ref a0 :: st) μ := g_aload_n (i := 0) (by decide +kernel) rfl
theorem i168_138 : m_G 168 138 L (.ref a0 :: st) μ = b_v (m_gf μ a0 9 17) 168 141 L st μ := g_getf (i := 151) (by decide +kernel) (by decide +kernel)
theorem i168_141 : m_G 168 141 L (.int x1 :: .int x0 :: st) μ = if x0 < x1 then m_G 168 144 L st μ else m_G 168 199 L st μ := g_cmpge (off := 58) (by decide +kernel) (by decide)
theorem i168_144 : m_G 168 144 [.ref a0, v1, v2] st μ = m_G 168 145 [.ref a0, v1, v2] (.ref a0 :: st) μ := g_aload_n (i := 0) (by decide +kernel) rfl
theorem i168_145 : m_G 168 145 [.ref a0, v1, v2] st μ = m_G 168 146 [.ref a0, v1, v2] (.ref a0 :: st) μ := g_aload_n (i := 0) (by decide +kernel) rfl
theorem i168_146 : m_G 168 146 L (.ref a0 :: st) μ = b_v (m_gf μ a0 9 18) 168 149 L st μ := g_getf (i := 44) (by decide +kernel) (by decide +kernel)
theorem i168_149 : m_G 168 149 [v0, .int x0, v2] st μ = m_G 168 150 [v0, .int x0, v2] (.int x0 :: st) μ := g_iload_n (i := 1) (by decide +kernel) rfl
theorem i168_150 : m_G 168 150 L (.int x0 :: .ref a0 :: st) μ = b_i (m_ga μ a0 x0) 168 151 L st μ := g_iald (by decide +kernel)
theorem i168_151 : m_G 168 151 L (.int x0 :: st) μ = m_G 168 152 L (.long x0.toInt64 :: st) μ := g_i2l (by decide +kernel)
theorem i168_152 (ho : m_oc μ a0 = some 9) : m_G 168 152 L (.long l0 :: .ref a0 :: []) μ = b_c (m_D 167 [.ref a0, .long l0] μ) 168 155 L [] := g_virt (i := 286) (n := 1) (a := a0) (c := 9) (l := [(9, 167)]) (by decide +kernel) (by decide +kernel) rfl rfl (x_call_ok (ws := [1, 2]) (Nat.le_of_ble_eq_true rfl) rfl (by decide +kernel) rfl (by decide +kernel) rfl rfl) ho
theorem i168_155 : m_G 168 155 L st μ = m_G 168 156 L (.int 0 :: st) μ := g_iconst (n := 0) (by decide +kernel) (by decide)
theorem i168_156 : m_G 168 156 [v0, v1, v2] (.int x0 :: st) μ = m_G 168 157 [v0, v1, .int x0] st μ := g_istore_n (i := 2) (by decide +kernel) (Nat.le_of_ble_eq_true rfl) rfl
theorem i168_157 : m_G 168 157 [v0, v1, .int x0] st μ = m_G 168 158 [v0, v1, .int x0] (.int x0 :: st) μ := g_iload_n (i := 2) (by decide +kernel) rfl
theorem i168_158 : m_G 168 158 [.ref a0, v1, v2] st μ = m_G 168 159 [.ref a0, v1, v2] (.ref a0 :: st) μ := g_aload_n (i := 0) (by decide +kernel) rfl
theorem i168_159 : m_G 168 159 L (.ref a0 :: st) μ = b_v (m_gf μ a0 9 0) 168 162 L st μ := g_getf (i := 99) (by decide +kernel) (by decide +kernel)
theorem i168_162 : m_G 168 162 L (.int x1 :: .int x0 :: st) μ = if x0 < x1 then m_G 168 165 L st μ else m_G 168 193 L st μ := g_cmpge (off := 31) (by decide +kernel) (by decide)
theorem i168_165 : m_G 168 165 [.ref a0, v1, v2] st μ = m_G 168 166 [.ref a0, v1, v2] (.ref a0 :: st) μ := g_aload_n (i := 0) (by decide +kernel) rfl
theorem i168_166 : m_G 168 166 [.ref a0, v1, v2] st μ = m_G 168 167 [.ref a0, v1, v2] (.ref a0 :: st) μ := g_aload_n (i := 0) (by decide +kernel) rfl
theorem i168_167 : m_G 168 167 [v0, .int x0, v2] st μ = m_G 168 168 [v0, .int x0, v2] (.int x0 :: st) μ := g_iload_n (i := 1) (by decide +kernel) rfl
theorem i168_168 : m_G 168 168 [v0, v1, .int x0] st μ = m_G 168 169 [v0, v1, .int x0] (.int x0 :: st) μ := g_iload_n (i := 2) (by decide +kernel) rfl
theorem i168_169 (ho : m_oc μ a0 = some 9) : m_G 168 169 L (.int x1 :: .int x0 :: .ref a0 :: [w0]) μ = b_c (m_D 127 [.ref a0, .int x0, .int x1] μ) 168 172 L [w0] := g_virt (i := 187) (n := 2) (a := a0) (c := 9) (l := [(9, 127)]) (by decide +kernel) (by decide +kernel) rfl rfl (x_call_ok (ws := [1, 1, 1]) (Nat.le_of_ble_eq_true rfl) rfl (by decide +kernel) rfl (by decide +kernel) rfl rfl) ho
theorem i168_172 : m_G 168 172 L (.int x0 :: st) μ = m_G 168 173 L (.long x0.toInt64 :: st) μ := g_i2l (by decide +kernel)
theorem i168_173 (ho : m_oc μ a0 = some 9) : m_G 168 173 L (.long l0 :: .ref a0 :: []) μ = b_c (m_D 167 [.ref a0, .long l0] μ) 168 176 L [] := g_virt (i := 286) (n := 1) (a := a0) (c := 9) (l := [(9, 167)]) (by decide +kernel) (by decide +kernel) rfl rfl (x_call_ok (ws := [1, 2]) (Nat.le_of_ble_eq_true rfl) rfl (by decide +kernel) rfl (by decide +kernel) rfl rfl) ho
theorem i168_176 : m_G 168 176 [.ref a0, v1, v2] st μ = m_G 168 177 [.ref a0, v1, v2] (.ref a0 :: st) μ := g_aload_n (i := 0) (by decide +kernel) rfl
theorem i168_177 : m_G 168 177 [.ref a0, v1, v2] st μ = m_G 168 178 [.ref a0, v1, v2] (.ref a0 :: st) μ := g_aload_n (i := 0) (by decide +kernel) rfl
theorem i168_178 : m_G 168 178 [v0, .int x0, v2] st μ = m_G 168 179 [v0, .int x0, v2] (.int x0 :: st) μ := g_iload_n (i := 1) (by decide +kernel) rfl
theorem i168_179 : m_G 168 179 [v0, v1, .int x0] st μ = m_G 168 180 [v0, v1, .int x0] (.int x0 :: st) μ := g_iload_n (i := 2) (by decide +kernel) rfl
theorem i168_180 (ho : m_oc μ a0 = some 9) : m_G 168 180 L (.int x1 :: .int x0 :: .ref a0 :: [w0]) μ = b_c (m_D 153 [.ref a0, .int x0, .int x1] μ) 168 183 L [w0] := g_virt (i := 249) (n := 2) (a := a0) (c := 9) (l := [(9, 153)]) (by decide +kernel) (by decide +kernel) rfl rfl (x_call_ok (ws := [1, 1, 1]) (Nat.le_of_ble_eq_true rfl) rfl (by decide +kernel) rfl (by decide +kernel) rfl rfl) ho
theorem i168_183 : m_G 168 183 L (.int x0 :: st) μ = m_G 168 184 L (.long x0.toInt64 :: st) μ := g_i2l (by decide +kernel)
theorem i168_184 (ho : m_oc μ a0 = some 9) : m_G 168 184 L (.long l0 :: .ref a0 :: []) μ = b_c (m_D 167 [.ref a0, .long l0] μ) 168 187 L [] := g_virt (i := 286) (n := 1) (a := a0) (c := 9) (l := [(9, 167)]) (by decide +kernel) (by decide +kernel) rfl rfl (x_call_ok (ws := [1, 2]) (Nat.le_of_ble_eq_true rfl) rfl (by decide +kernel) rfl (by decide +kernel) rfl rfl) ho
theorem i168_187 : m_G 168 187 [v0, v1, .int x0] st μ = m_G 168 190 [v0, v1, .int (x0 + 1)] st μ := g_iinc (i := 2) (n := 1) (by decide +kernel) rfl (by decide) rfl
theorem i168_190 : m_G 168 190 L st μ = m_G 168 157 L st μ := g_goto (off := -33) (by decide +kernel) (by decide)
theorem i168_193 : m_G 168 193 [v0, .int x0, v2] st μ = m_G 168 196 [v0, .int (x0 + 1), v2] st μ := g_iinc (i := 1) (n := 1) (by decide +kernel) rfl (by decide) rfl
theorem i168_196 : m_G 168 196 L st μ = m_G 168 136 L st μ := g_goto (off := -60) (by decide +kernel) (by decide)
theorem i168_199 : m_G 168 199 L st μ = m_G 168 200 L (.int 0 :: st) μ := g_iconst (n := 0) (by decide +kernel) (by decide)
theorem i168_200 : m_G 168 200 [v0, v1, v2] (.int x0 :: st) μ = m_G 168 201 [v0, .int x0, v2] st μ := g_istore_n (i := 1) (by decide +kernel) (Nat.le_of_ble_eq_true rfl) rfl
theorem i168_201 : m_G 168 201 [v0, .int x0, v2] st μ = m_G 168 202 [v0, .int x0, v2] (.int x0 :: st) μ := g_iload_n (i := 1) (by decide +kernel) rfl
theorem i168_202 : m_G 168 202 [.ref a0, v1, v2] st μ = m_G 168 203 [.ref a0, v1, v2] (.ref a0 :: st) μ := g_aload_n (i := 0) (by decide +kernel) rfl
theorem i168_203 : m_G 168 203 L (.ref a0 :: st) μ = b_v (m_gf μ a0 9 27) 168 206 L st μ := g_getf (i := 235) (by decide +kernel) (by decide +kernel)
theorem i168_206 : m_G 168 206 L (.int x1 :: .int x0 :: st) μ = if x0 < x1 then m_G 168 209 L st μ else m_G 168 248 L st μ := g_cmpge (off := 42) (by decide +kernel) (by decide)
theorem i168_209 : m_G 168 209 [.ref a0, v1, v2] st μ = m_G 168 210 [.ref a0, v1, v2] (.ref a0 :: st) μ := g_aload_n (i := 0) (by decide +kernel) rfl
theorem i168_210 : m_G 168 210 [.ref a0, v1, v2] st μ = m_G 168 211 [.ref a0, v1, v2] (.ref a0 :: st) μ := g_aload_n (i := 0) (by decide +kernel) rfl
theorem i168_211 : m_G 168 211 L (.ref a0 :: st) μ = b_v (m_gf μ a0 9 28) 168 214 L st μ := g_getf (i := 68) (by decide +kernel) (by decide +kernel)
theorem i168_214 : m_G 168 214 [v0, .int x0, v2] st μ = m_G 168 215 [v0, .int x0, v2] (.int x0 :: st) μ := g_iload_n (i := 1) (by decide +kernel) rfl
theorem i168_215 : m_G 168 215 L (.int x0 :: .ref a0 :: st) μ = b_i (m_ga μ a0 x0) 168 216 L st μ := g_iald (by decide +kernel)
theorem i168_216 : m_G 168 216 L (.int x0 :: st) μ = m_G 168 217 L (.long x0.toInt64 :: st) μ := g_i2l (by decide +kernel)
theorem i168_217 (ho : m_oc μ a0 = some 9) : m_G 168 217 L (.long l0 :: .ref a0 :: []) μ = b_c (m_D 167 [.ref a0, .long l0] μ) 168 220 L [] := g_virt (i := 286) (n := 1) (a := a0) (c := 9) (l := [(9, 167)]) (by decide +kernel) (by decide +kernel) rfl rfl (x_call_ok (ws := [1, 2]) (Nat.le_of_ble_eq_true rfl) rfl (by decide +kernel) rfl (by decide +kernel) rfl rfl) ho
theorem i168_220 : m_G 168 220 [.ref a0, v1, v2] st μ = m_G 168 221 [.ref a0, v1, v2] (.ref a0 :: st) μ := g_aload_n (i := 0) (by decide +kernel) rfl
theorem i168_221 : m_G 168 221 [.ref a0, v1, v2] st μ = m_G 168 222 [.ref a0, v1, v2] (.ref a0 :: st) μ := g_aload_n (i := 0) (by decide +kernel) rfl
theorem i168_222 : m_G 168 222 L (.ref a0 :: st) μ = b_v (m_gf μ a0 9 29) 168 225 L st μ := g_getf (i := 71) (by decide +kernel) (by decide +kernel)
theorem i168_225 : m_G 168 225 [v0, .int x0, v2] st μ = m_G 168 226 [v0, .int x0, v2] (.int x0 :: st) μ := g_iload_n (i := 1) (by decide +kernel) rfl
theorem i168_226 : m_G 168 226 L (.int x0 :: .ref a0 :: st) μ = b_i (m_ga μ a0 x0) 168 227 L st μ := g_iald (by decide +kernel)
theorem i168_227 : m_G 168 227 L (.int x0 :: st) μ = m_G 168 228 L (.long x0.toInt64 :: st) μ := g_i2l (by decide +kernel)
theorem i168_228 (ho : m_oc μ a0 = some 9) : m_G 168 228 L (.long l0 :: .ref a0 :: []) μ = b_c (m_D 167 [.ref a0, .long l0] μ) 168 231 L [] := g_virt (i := 286) (n := 1) (a := a0) (c := 9) (l := [(9, 167)]) (by decide +kernel) (by decide +kernel) rfl rfl (x_call_ok (ws := [1, 2]) (Nat.le_of_ble_eq_true rfl) rfl (by decide +kernel) rfl (by decide +kernel) rfl rfl) ho
theorem i168_231 : m_G 168 231 [.ref a0, v1, v2] st μ = m_G 168 232 [.ref a0, v1, v2] (.ref a0 :: st) μ := g_aload_n (i := 0) (by decide +kernel) rfl
theorem i168_232 : m_G 168 232 [.ref a0, v1, v2] st μ = m_G 168 233 [.ref a0, v1, v2] (.ref a0 :: st) μ := g_aload_n (i := 0) (by decide +kernel) rfl
theorem i168_233 : m_G 168 233 L (.ref a0 :: st) μ = b_v (m_gf μ a0 9 30) 168 236 L st μ := g_getf (i := 74) (by decide +kernel) (by decide +kernel)
theorem i168_236 : m_G 168 236 [v0, .int x0, v2] st μ = m_G 168 237 [v0, .int x0, v2] (.int x0 :: st) μ := g_iload_n (i := 1) (by decide +kernel) rfl
theorem i168_237 : m_G 168 237 L (.int x0 :: .ref a0 :: st) μ = b_i (m_ga μ a0 x0) 168 238 L st μ := g_iald (by decide +kernel)
theorem i168_238 : m_G 168 238 L (.int x0 :: st) μ = m_G 168 239 L (.long x0.toInt64 :: st) μ := g_i2l (by decide +kernel)
theorem i168_239 (ho : m_oc μ a0 = some 9) : m_G 168 239 L (.long l0 :: .ref a0 :: []) μ = b_c (m_D 167 [.ref a0, .long l0] μ) 168 242 L [] := g_virt (i := 286) (n := 1) (a := a0) (c := 9) (l := [(9, 167)]) (by decide +kernel) (by decide +kernel) rfl rfl (x_call_ok (ws := [1, 2]) (Nat.le_of_ble_eq_true rfl) rfl (by decide +kernel) rfl (by decide +kernel) rfl rfl) ho
theorem i168_242 : m_G 168 242 [v0, .int x0, v2] st μ = m_G 168 245 [v0, .int (x0 + 1), v2] st μ := g_iinc (i := 1) (n := 1) (by decide +kernel) rfl (by decide) rfl
theorem i168_245 : m_G 168 245 L st μ = m_G 168 201 L st μ := g_goto (off := -44) (by decide +kernel) (by decide)
theorem i168_248 : m_G 168 248 L st μ = m_G 168 249 L (.int 0 :: st) μ := g_iconst (n := 0) (by decide +kernel) (by decide)
theorem i168_249 : m_G 168 249 [v0, v1, v2] (.int x0 :: st) μ = m_G 168 250 [v0, .int x0, v2] st μ := g_istore_n (i := 1) (by decide +kernel) (Nat.le_of_ble_eq_true rfl) rfl
theorem i168_250 : m_G 168 250 [v0, .int x0, v2] st μ = m_G 168 251 [v0, .int x0, v2] (.int x0 :: st) μ := g_iload_n (i := 1) (by decide +kernel) rfl
theorem i168_251 : m_G 168 251 [.ref a0, v1, v2] st μ = m_G 168 252 [.ref a0, v1, v2] (.ref a0 :: st) μ := g_aload_n (i := 0) (by decide +kernel) rfl
theorem i168_252 : m_G 168 252 L (.ref a0 :: st) μ = b_v (m_gf μ a0 9 8) 168 255 L st μ := g_getf (i := 112) (by decide +kernel) (by decide +kernel)
theorem i168_255 : m_G 168 255 L (.int x1 :: .int x0 :: st) μ = if x0 < x1 then m_G 168 258 L st μ else m_G 168 275 L st μ := g_cmpge (off := 20) (by decide +kernel) (by decide)
theorem i168_258 : m_G 168 258 [.ref a0, v1, v2] st μ = m_G 168 259 [.ref a0, v1, v2] (.ref a0 :: st) μ := g_aload_n (i := 0) (by decide +kernel) rfl
theorem i168_259 : m_G 168 259 [.ref a0, v1, v2] st μ = m_G 168 260 [.ref a0, v1, v2] (.ref a0 :: st) μ := g_aload_n (i := 0) (by decide +kernel) rfl
theorem i168_260 : m_G 168 260 L (.ref a0 :: st) μ = b_v (m_gf μ a0 9 7) 168 263 L st μ := g_getf (i := 29) (by decide +kernel) (by decide +kernel)
theorem i168_263 : m_G 168 263 [v0, .int x0, v2] st μ = m_G 168 264 [v0, .int x0, v2] (.int x0 :: st) μ := g_iload_n (i := 1) (by decide +kernel) rfl
theorem i168_264 : m_G 168 264 L (.int x0 :: .ref a0 :: st) μ = b_i (m_ga μ a0 x0) 168 265 L st μ := g_iald (by decide +kernel)
theorem i168_265 : m_G 168 265 L (.int x0 :: st) μ = m_G 168 266 L (.long x0.toInt64 :: st) μ := g_i2l (by decide +kernel)
theorem i168_266 (ho : m_oc μ a0 = some 9) : m_G 168 266 L (.long l0 :: .ref a0 :: []) μ = b_c (m_D 167 [.ref a0, .long l0] μ) 168 269 L [] := g_virt (i := 286) (n := 1) (a := a0) (c := 9) (l := [(9, 167)]) (by decide +kernel) (by decide +kernel) rfl rfl (x_call_ok (ws := [1, 2]) (Nat.le_of_ble_eq_true rfl) rfl (by decide +kernel) rfl (by decide +kernel) rfl rfl) ho
theorem i168_269 : m_G 168 269 [v0, .int x0, v2] st μ = m_G 168 272 [v0, .int (x0 + 1), v2] st μ := g_iinc (i := 1) (n := 1) (by decide +kernel) rfl (by decide) rfl
theorem i168_272 : m_G 168 272 L st μ = m_G 168 250 L st μ := g_goto (off := -22) (by decide +kernel) (by decide)
theorem i168_275 : m_G 168 275 L st μ = m_G 168 276 L (.int 0 :: st) μ := g_iconst (n := 0) (by decide +kernel) (by decide)
theorem i168_276 : m_G 168 276 [v0, v1, v2] (.int x0 :: st) μ = m_G 168 277 [v0, .int x0, v2] st μ := g_istore_n (i := 1) (by decide +kernel) (Nat.le_of_ble_eq_true rfl) rfl
theorem i168_277 : m_G 168 277 [v0, .int x0, v2] st μ = m_G 168 278 [v0, .int x0, v2] (.int x0 :: st) μ := g_iload_n (i := 1) (by decide +kernel) rfl
theorem i168_278 : m_G 168 278 L st μ = m_G 168 280 L (.int 7 :: st) μ := g_bipush (n := 7) (by decide +kernel) (by decide)
theorem i168_280 : m_G 168 280 L (.int x1 :: .int x0 :: st) μ = if x0 < x1 then m_G 168 283 L st μ else m_G 168 299 L st μ := g_cmpge (off := 19) (by decide +kernel) (by decide)
theorem i168_283 : m_G 168 283 [.ref a0, v1, v2] st μ = m_G 168 284 [.ref a0, v1, v2] (.ref a0 :: st) μ := g_aload_n (i := 0) (by decide +kernel) rfl
theorem i168_284 : m_G 168 284 [.ref a0, v1, v2] st μ = m_G 168 285 [.ref a0, v1, v2] (.ref a0 :: st) μ := g_aload_n (i := 0) (by decide +kernel) rfl
theorem i168_285 : m_G 168 285 [v0, .int x0, v2] st μ = m_G 168 286 [v0, .int x0, v2] (.int x0 :: st) μ := g_iload_n (i := 1) (by decide +kernel) rfl
theorem i168_286 (ho : m_oc μ a0 = some 9) : m_G 168 286 L (.int x0 :: .ref a0 :: [w0]) μ = b_c (m_D 165 [.ref a0, .int x0] μ) 168 289 L [w0] := g_virt (i := 275) (n := 1) (a := a0) (c := 9) (l := [(9, 165)]) (by decide +kernel) (by decide +kernel) rfl rfl (x_call_ok (ws := [1, 1]) (Nat.le_of_ble_eq_true rfl) rfl (by decide +kernel) rfl (by decide +kernel) rfl rfl) ho
theorem i168_289 : m_G 168 289 L (.int x0 :: st) μ = m_G 168 290 L (.long x0.toInt64 :: st) μ := g_i2l (by decide +kernel)
theorem i168_290 (ho : m_oc μ a0 = some 9) : m_G 168 290 L (.long l0 :: .ref a0 :: []) μ = b_c (m_D 167 [.ref a0, .long l0] μ) 168 293 L [] := g_virt (i := 286) (n := 1) (a := a0) (c := 9) (l := [(9, 167)]) (by decide +kernel) (by decide +kernel) rfl rfl (x_call_ok (ws := [1, 2]) (Nat.le_of_ble_eq_true rfl) rfl (by decide +kernel) rfl (by decide +kernel) rfl rfl) ho
theorem i168_293 : m_G 168 293 [v0, .int x0, v2] st μ = m_G 168 296 [v0, .int (x0 + 1), v2] st μ := g_iinc (i := 1) (n := 1) (by decide +kernel) rfl (by decide) rfl
theorem i168_296 : m_G 168 296 L st μ = m_G 168 277 L st μ := g_goto (off := -19) (by decide +kernel) (by decide)
theorem i168_299 : m_G 168 299 [.ref a0, v1, v2] st μ = m_G 168 300 [.ref a0, v1, v2] (.ref a0 :: st) μ := g_aload_n (i := 0) (by decide +kernel) rfl
theorem i168_300 : m_G 168 300 L (.ref a0 :: st) μ = b_v (m_gf μ a0 9 37) 168 303 L st μ := g_getf (i := 280) (by decide +kernel) (by decide +kernel)
theorem i168_303 : m_G 168 303 L [.long l0] μ = some (some (.long l0), μ) := g_lret (by decide +kernel) (by decide)
theorem D168 : m_D 168 [.ref a0] μ = m_G 168 0 [.ref a0, m_d, m_d] [] μ := d_def (by decide) rfl
end i_23_ic
