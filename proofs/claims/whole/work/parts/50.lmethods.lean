abbrev b_La_column : ByteArray := method_3_code
def y_La_column : MethodName := ⟨RLa, "column", "(LOrderBounds;II[J)I"⟩
theorem k_La_column : Cond.codeWith y_La_column b_La_column 5 (some .int) [((0 : Nat), (10 : Nat), (13 : Nat), (13 : Nat)), ((0 : Nat), (10 : Nat), (17 : Nat), (15 : Nat))] ∈ tt := (tt1 239 rfl rfl)
theorem s_La_column : Cond.static y_La_column ∈ tt := (tt1 238 rfl rfl)
theorem d_La_column_0 : decode b_La_column 0 = .ok (.aload_n 3, 1) := by decide +kernel
theorem d_La_column_1 : decode b_La_column 1 = .ok (.iconst 0, 1) := by decide +kernel
theorem d_La_column_2 : decode b_La_column 2 = .ok (.aload_n 0, 1) := by decide +kernel
theorem d_La_column_3 : decode b_La_column 3 = .ok (.iload_n 1, 1) := by decide +kernel
theorem d_La_column_4 : decode b_La_column 4 = .ok (.iload_n 2, 1) := by decide +kernel
theorem d_La_column_5 : decode b_La_column 5 = .ok (.invokevirtual 7, 3) := by decide +kernel
theorem d_La_column_8 : decode b_La_column 8 = .ok (.i2l, 1) := by decide +kernel
theorem d_La_column_9 : decode b_La_column 9 = .ok (.lastore, 1) := by decide +kernel
theorem d_La_column_10 : decode b_La_column 10 = .ok (.goto 11, 3) := by decide +kernel
theorem d_La_column_13 : decode b_La_column 13 = .ok (.astore 4, 2) := by decide +kernel
theorem d_La_column_15 : decode b_La_column 15 = .ok (.iconst 1, 1) := by decide +kernel
theorem d_La_column_16 : decode b_La_column 16 = .ok (.ireturn, 1) := by decide +kernel
theorem d_La_column_17 : decode b_La_column 17 = .ok (.astore 4, 2) := by decide +kernel
theorem d_La_column_19 : decode b_La_column 19 = .ok (.iconst 2, 1) := by decide +kernel
theorem d_La_column_20 : decode b_La_column 20 = .ok (.ireturn, 1) := by decide +kernel
theorem d_La_column_21 : decode b_La_column 21 = .ok (.iconst 0, 1) := by decide +kernel
theorem d_La_column_22 : decode b_La_column 22 = .ok (.ireturn, 1) := by decide +kernel
abbrev b_La_row : ByteArray := method_4_code
def y_La_row : MethodName := ⟨RLa, "row", "(LOrderBounds;II[J)I"⟩
theorem k_La_row : Cond.codeWith y_La_row b_La_row 5 (some .int) [((0 : Nat), (10 : Nat), (13 : Nat), (13 : Nat)), ((0 : Nat), (10 : Nat), (17 : Nat), (15 : Nat))] ∈ tt := (tt2 114 rfl rfl)
theorem s_La_row : Cond.static y_La_row ∈ tt := (tt2 113 rfl rfl)
theorem d_La_row_0 : decode b_La_row 0 = .ok (.aload_n 3, 1) := by decide +kernel
theorem d_La_row_1 : decode b_La_row 1 = .ok (.iconst 0, 1) := by decide +kernel
theorem d_La_row_2 : decode b_La_row 2 = .ok (.aload_n 0, 1) := by decide +kernel
theorem d_La_row_3 : decode b_La_row 3 = .ok (.iload_n 1, 1) := by decide +kernel
theorem d_La_row_4 : decode b_La_row 4 = .ok (.iload_n 2, 1) := by decide +kernel
theorem d_La_row_5 : decode b_La_row 5 = .ok (.invokevirtual 17, 3) := by decide +kernel
theorem d_La_row_8 : decode b_La_row 8 = .ok (.i2l, 1) := by decide +kernel
theorem d_La_row_9 : decode b_La_row 9 = .ok (.lastore, 1) := by decide +kernel
theorem d_La_row_10 : decode b_La_row 10 = .ok (.goto 11, 3) := by decide +kernel
theorem d_La_row_13 : decode b_La_row 13 = .ok (.astore 4, 2) := by decide +kernel
theorem d_La_row_15 : decode b_La_row 15 = .ok (.iconst 1, 1) := by decide +kernel
theorem d_La_row_16 : decode b_La_row 16 = .ok (.ireturn, 1) := by decide +kernel
theorem d_La_row_17 : decode b_La_row 17 = .ok (.astore 4, 2) := by decide +kernel
theorem d_La_row_19 : decode b_La_row 19 = .ok (.iconst 2, 1) := by decide +kernel
theorem d_La_row_20 : decode b_La_row 20 = .ok (.ireturn, 1) := by decide +kernel
theorem d_La_row_21 : decode b_La_row 21 = .ok (.iconst 0, 1) := by decide +kernel
theorem d_La_row_22 : decode b_La_row 22 = .ok (.ireturn, 1) := by decide +kernel
abbrev b_La_factor : ByteArray := method_5_code
def y_La_factor : MethodName := ⟨RLa, "factor", "(LOrderBounds;III)I"⟩
theorem k_La_factor : Cond.codeWith y_La_factor b_La_factor 5 (some .int) [((0 : Nat), (7 : Nat), (10 : Nat), (24 : Nat)), ((0 : Nat), (7 : Nat), (14 : Nat), (13 : Nat))] ∈ tt := (tt2 151 rfl rfl)
theorem s_La_factor : Cond.static y_La_factor ∈ tt := (tt2 150 rfl rfl)
theorem d_La_factor_0 : decode b_La_factor 0 = .ok (.aload_n 0, 1) := by decide +kernel
theorem d_La_factor_1 : decode b_La_factor 1 = .ok (.iload_n 1, 1) := by decide +kernel
theorem d_La_factor_2 : decode b_La_factor 2 = .ok (.iload_n 2, 1) := by decide +kernel
theorem d_La_factor_3 : decode b_La_factor 3 = .ok (.iload_n 3, 1) := by decide +kernel
theorem d_La_factor_4 : decode b_La_factor 4 = .ok (.invokevirtual 20, 3) := by decide +kernel
theorem d_La_factor_7 : decode b_La_factor 7 = .ok (.goto 11, 3) := by decide +kernel
theorem d_La_factor_10 : decode b_La_factor 10 = .ok (.astore 4, 2) := by decide +kernel
theorem d_La_factor_12 : decode b_La_factor 12 = .ok (.iconst 1, 1) := by decide +kernel
theorem d_La_factor_13 : decode b_La_factor 13 = .ok (.ireturn, 1) := by decide +kernel
theorem d_La_factor_14 : decode b_La_factor 14 = .ok (.astore 4, 2) := by decide +kernel
theorem d_La_factor_16 : decode b_La_factor 16 = .ok (.iconst 2, 1) := by decide +kernel
theorem d_La_factor_17 : decode b_La_factor 17 = .ok (.ireturn, 1) := by decide +kernel
theorem d_La_factor_18 : decode b_La_factor 18 = .ok (.iconst 0, 1) := by decide +kernel
theorem d_La_factor_19 : decode b_La_factor 19 = .ok (.ireturn, 1) := by decide +kernel
abbrev b_La_right : ByteArray := method_6_code
def y_La_right : MethodName := ⟨RLa, "right", "(LOrderBounds;II)I"⟩
theorem k_La_right : Cond.codeWith y_La_right b_La_right 4 (some .int) [((0 : Nat), (6 : Nat), (9 : Nat), (24 : Nat)), ((0 : Nat), (6 : Nat), (12 : Nat), (13 : Nat))] ∈ tt := (tt2 189 rfl rfl)
theorem s_La_right : Cond.static y_La_right ∈ tt := (tt2 188 rfl rfl)
theorem d_La_right_0 : decode b_La_right 0 = .ok (.aload_n 0, 1) := by decide +kernel
theorem d_La_right_1 : decode b_La_right 1 = .ok (.iload_n 1, 1) := by decide +kernel
theorem d_La_right_2 : decode b_La_right 2 = .ok (.iload_n 2, 1) := by decide +kernel
theorem d_La_right_3 : decode b_La_right 3 = .ok (.invokevirtual 26, 3) := by decide +kernel
theorem d_La_right_6 : decode b_La_right 6 = .ok (.goto 9, 3) := by decide +kernel
theorem d_La_right_9 : decode b_La_right 9 = .ok (.astore_n 3, 1) := by decide +kernel
theorem d_La_right_10 : decode b_La_right 10 = .ok (.iconst 1, 1) := by decide +kernel
theorem d_La_right_11 : decode b_La_right 11 = .ok (.ireturn, 1) := by decide +kernel
theorem d_La_right_12 : decode b_La_right 12 = .ok (.astore_n 3, 1) := by decide +kernel
theorem d_La_right_13 : decode b_La_right 13 = .ok (.iconst 2, 1) := by decide +kernel
theorem d_La_right_14 : decode b_La_right 14 = .ok (.ireturn, 1) := by decide +kernel
theorem d_La_right_15 : decode b_La_right 15 = .ok (.iconst 0, 1) := by decide +kernel
theorem d_La_right_16 : decode b_La_right 16 = .ok (.ireturn, 1) := by decide +kernel
abbrev b_La_cut : ByteArray := method_7_code
def y_La_cut : MethodName := ⟨RLa, "cut", "(LOrderBounds;II[J)I"⟩
theorem k_La_cut : Cond.codeWith y_La_cut b_La_cut 5 (some .int) [((0 : Nat), (10 : Nat), (13 : Nat), (24 : Nat)), ((0 : Nat), (10 : Nat), (17 : Nat), (15 : Nat))] ∈ tt := (tt2 197 rfl rfl)
theorem s_La_cut : Cond.static y_La_cut ∈ tt := (tt2 196 rfl rfl)
theorem d_La_cut_0 : decode b_La_cut 0 = .ok (.aload_n 3, 1) := by decide +kernel
theorem d_La_cut_1 : decode b_La_cut 1 = .ok (.iconst 0, 1) := by decide +kernel
theorem d_La_cut_2 : decode b_La_cut 2 = .ok (.aload_n 0, 1) := by decide +kernel
theorem d_La_cut_3 : decode b_La_cut 3 = .ok (.iload_n 1, 1) := by decide +kernel
theorem d_La_cut_4 : decode b_La_cut 4 = .ok (.iload_n 2, 1) := by decide +kernel
theorem d_La_cut_5 : decode b_La_cut 5 = .ok (.invokevirtual 30, 3) := by decide +kernel
theorem d_La_cut_8 : decode b_La_cut 8 = .ok (.i2l, 1) := by decide +kernel
theorem d_La_cut_9 : decode b_La_cut 9 = .ok (.lastore, 1) := by decide +kernel
theorem d_La_cut_10 : decode b_La_cut 10 = .ok (.goto 11, 3) := by decide +kernel
theorem d_La_cut_13 : decode b_La_cut 13 = .ok (.astore 4, 2) := by decide +kernel
theorem d_La_cut_15 : decode b_La_cut 15 = .ok (.iconst 1, 1) := by decide +kernel
theorem d_La_cut_16 : decode b_La_cut 16 = .ok (.ireturn, 1) := by decide +kernel
theorem d_La_cut_17 : decode b_La_cut 17 = .ok (.astore 4, 2) := by decide +kernel
theorem d_La_cut_19 : decode b_La_cut 19 = .ok (.iconst 2, 1) := by decide +kernel
theorem d_La_cut_20 : decode b_La_cut 20 = .ok (.ireturn, 1) := by decide +kernel
theorem d_La_cut_21 : decode b_La_cut 21 = .ok (.iconst 0, 1) := by decide +kernel
theorem d_La_cut_22 : decode b_La_cut 22 = .ok (.ireturn, 1) := by decide +kernel
abbrev b_La_run : ByteArray := method_8_code
def y_La_run : MethodName := ⟨RLa, "run", "(LOrderBounds;I[J)I"⟩
theorem k_La_run : Cond.codeWith y_La_run b_La_run 4 (some .int) [((0 : Nat), (9 : Nat), (12 : Nat), (13 : Nat))] ∈ tt := (tt2 225 rfl rfl)
theorem s_La_run : Cond.static y_La_run ∈ tt := (tt2 224 rfl rfl)
theorem d_La_run_0 : decode b_La_run 0 = .ok (.aload_n 2, 1) := by decide +kernel
theorem d_La_run_1 : decode b_La_run 1 = .ok (.iconst 0, 1) := by decide +kernel
theorem d_La_run_2 : decode b_La_run 2 = .ok (.aload_n 0, 1) := by decide +kernel
theorem d_La_run_3 : decode b_La_run 3 = .ok (.iload_n 1, 1) := by decide +kernel
theorem d_La_run_4 : decode b_La_run 4 = .ok (.invokevirtual 33, 3) := by decide +kernel
theorem d_La_run_7 : decode b_La_run 7 = .ok (.i2l, 1) := by decide +kernel
theorem d_La_run_8 : decode b_La_run 8 = .ok (.lastore, 1) := by decide +kernel
theorem d_La_run_9 : decode b_La_run 9 = .ok (.goto 6, 3) := by decide +kernel
theorem d_La_run_12 : decode b_La_run 12 = .ok (.astore_n 3, 1) := by decide +kernel
theorem d_La_run_13 : decode b_La_run 13 = .ok (.iconst 1, 1) := by decide +kernel
theorem d_La_run_14 : decode b_La_run 14 = .ok (.ireturn, 1) := by decide +kernel
theorem d_La_run_15 : decode b_La_run 15 = .ok (.iconst 0, 1) := by decide +kernel
theorem d_La_run_16 : decode b_La_run 16 = .ok (.ireturn, 1) := by decide +kernel
abbrev b_La_told : ByteArray := method_9_code
def y_La_told : MethodName := ⟨RLa, "told", "(LOrderBounds;I[J)I"⟩
theorem k_La_told : Cond.codeWith y_La_told b_La_told 4 (some .int) [((0 : Nat), (9 : Nat), (12 : Nat), (24 : Nat)), ((0 : Nat), (9 : Nat), (15 : Nat), (40 : Nat))] ∈ tt := (tt3 34 rfl rfl)
theorem s_La_told : Cond.static y_La_told ∈ tt := (tt3 33 rfl rfl)
theorem d_La_told_0 : decode b_La_told 0 = .ok (.aload_n 2, 1) := by decide +kernel
theorem d_La_told_1 : decode b_La_told 1 = .ok (.iconst 0, 1) := by decide +kernel
theorem d_La_told_2 : decode b_La_told 2 = .ok (.aload_n 0, 1) := by decide +kernel
theorem d_La_told_3 : decode b_La_told 3 = .ok (.iload_n 1, 1) := by decide +kernel
theorem d_La_told_4 : decode b_La_told 4 = .ok (.invokevirtual 37, 3) := by decide +kernel
theorem d_La_told_7 : decode b_La_told 7 = .ok (.i2l, 1) := by decide +kernel
theorem d_La_told_8 : decode b_La_told 8 = .ok (.lastore, 1) := by decide +kernel
theorem d_La_told_9 : decode b_La_told 9 = .ok (.goto 9, 3) := by decide +kernel
theorem d_La_told_12 : decode b_La_told 12 = .ok (.astore_n 3, 1) := by decide +kernel
theorem d_La_told_13 : decode b_La_told 13 = .ok (.iconst 1, 1) := by decide +kernel
theorem d_La_told_14 : decode b_La_told 14 = .ok (.ireturn, 1) := by decide +kernel
theorem d_La_told_15 : decode b_La_told 15 = .ok (.astore_n 3, 1) := by decide +kernel
theorem d_La_told_16 : decode b_La_told 16 = .ok (.iconst 2, 1) := by decide +kernel
theorem d_La_told_17 : decode b_La_told 17 = .ok (.ireturn, 1) := by decide +kernel
theorem d_La_told_18 : decode b_La_told 18 = .ok (.iconst 0, 1) := by decide +kernel
theorem d_La_told_19 : decode b_La_told 19 = .ok (.ireturn, 1) := by decide +kernel
abbrev b_La_value : ByteArray := method_10_code
def y_La_value : MethodName := ⟨RLa, "value", "(LOrderBounds;I[J)I"⟩
theorem k_La_value : Cond.codeWith y_La_value b_La_value 4 (some .int) [((0 : Nat), (9 : Nat), (12 : Nat), (24 : Nat)), ((0 : Nat), (9 : Nat), (15 : Nat), (40 : Nat))] ∈ tt := (tt3 71 rfl rfl)
theorem s_La_value : Cond.static y_La_value ∈ tt := (tt3 70 rfl rfl)
theorem d_La_value_0 : decode b_La_value 0 = .ok (.aload_n 2, 1) := by decide +kernel
theorem d_La_value_1 : decode b_La_value 1 = .ok (.iconst 0, 1) := by decide +kernel
theorem d_La_value_2 : decode b_La_value 2 = .ok (.aload_n 0, 1) := by decide +kernel
theorem d_La_value_3 : decode b_La_value 3 = .ok (.iload_n 1, 1) := by decide +kernel
theorem d_La_value_4 : decode b_La_value 4 = .ok (.invokevirtual 42, 3) := by decide +kernel
theorem d_La_value_7 : decode b_La_value 7 = .ok (.i2l, 1) := by decide +kernel
theorem d_La_value_8 : decode b_La_value 8 = .ok (.lastore, 1) := by decide +kernel
theorem d_La_value_9 : decode b_La_value 9 = .ok (.goto 9, 3) := by decide +kernel
theorem d_La_value_12 : decode b_La_value 12 = .ok (.astore_n 3, 1) := by decide +kernel
theorem d_La_value_13 : decode b_La_value 13 = .ok (.iconst 1, 1) := by decide +kernel
theorem d_La_value_14 : decode b_La_value 14 = .ok (.ireturn, 1) := by decide +kernel
theorem d_La_value_15 : decode b_La_value 15 = .ok (.astore_n 3, 1) := by decide +kernel
theorem d_La_value_16 : decode b_La_value 16 = .ok (.iconst 2, 1) := by decide +kernel
theorem d_La_value_17 : decode b_La_value 17 = .ok (.ireturn, 1) := by decide +kernel
theorem d_La_value_18 : decode b_La_value 18 = .ok (.iconst 0, 1) := by decide +kernel
theorem d_La_value_19 : decode b_La_value 19 = .ok (.ireturn, 1) := by decide +kernel
abbrev b_La_multiplier : ByteArray := method_11_code
def y_La_multiplier : MethodName := ⟨RLa, "multiplier", "(LOrderBounds;II)I"⟩
theorem k_La_multiplier : Cond.codeWith y_La_multiplier b_La_multiplier 4 (some .int) [((0 : Nat), (6 : Nat), (9 : Nat), (24 : Nat)), ((0 : Nat), (6 : Nat), (12 : Nat), (13 : Nat))] ∈ tt := (tt3 82 rfl rfl)
theorem s_La_multiplier : Cond.static y_La_multiplier ∈ tt := (tt3 81 rfl rfl)
theorem d_La_multiplier_0 : decode b_La_multiplier 0 = .ok (.aload_n 0, 1) := by decide +kernel
theorem d_La_multiplier_1 : decode b_La_multiplier 1 = .ok (.iload_n 1, 1) := by decide +kernel
theorem d_La_multiplier_2 : decode b_La_multiplier 2 = .ok (.iload_n 2, 1) := by decide +kernel
theorem d_La_multiplier_3 : decode b_La_multiplier 3 = .ok (.invokevirtual 45, 3) := by decide +kernel
theorem d_La_multiplier_6 : decode b_La_multiplier 6 = .ok (.goto 9, 3) := by decide +kernel
theorem d_La_multiplier_9 : decode b_La_multiplier 9 = .ok (.astore_n 3, 1) := by decide +kernel
theorem d_La_multiplier_10 : decode b_La_multiplier 10 = .ok (.iconst 1, 1) := by decide +kernel
theorem d_La_multiplier_11 : decode b_La_multiplier 11 = .ok (.ireturn, 1) := by decide +kernel
theorem d_La_multiplier_12 : decode b_La_multiplier 12 = .ok (.astore_n 3, 1) := by decide +kernel
theorem d_La_multiplier_13 : decode b_La_multiplier 13 = .ok (.iconst 2, 1) := by decide +kernel
theorem d_La_multiplier_14 : decode b_La_multiplier 14 = .ok (.ireturn, 1) := by decide +kernel
theorem d_La_multiplier_15 : decode b_La_multiplier 15 = .ok (.iconst 0, 1) := by decide +kernel
theorem d_La_multiplier_16 : decode b_La_multiplier 16 = .ok (.ireturn, 1) := by decide +kernel
abbrev b_La_follow : ByteArray := method_12_code
def y_La_follow : MethodName := ⟨RLa, "follow", "(LOrderBounds;II[J)I"⟩
theorem k_La_follow : Cond.codeWith y_La_follow b_La_follow 5 (some .int) [((0 : Nat), (10 : Nat), (13 : Nat), (24 : Nat)), ((0 : Nat), (10 : Nat), (17 : Nat), (15 : Nat))] ∈ tt := (tt3 98 rfl rfl)
theorem s_La_follow : Cond.static y_La_follow ∈ tt := (tt3 97 rfl rfl)
theorem d_La_follow_0 : decode b_La_follow 0 = .ok (.aload_n 3, 1) := by decide +kernel
theorem d_La_follow_1 : decode b_La_follow 1 = .ok (.iconst 0, 1) := by decide +kernel
theorem d_La_follow_2 : decode b_La_follow 2 = .ok (.aload_n 0, 1) := by decide +kernel
theorem d_La_follow_3 : decode b_La_follow 3 = .ok (.iload_n 1, 1) := by decide +kernel
theorem d_La_follow_4 : decode b_La_follow 4 = .ok (.iload_n 2, 1) := by decide +kernel
theorem d_La_follow_5 : decode b_La_follow 5 = .ok (.invokevirtual 48, 3) := by decide +kernel
theorem d_La_follow_8 : decode b_La_follow 8 = .ok (.i2l, 1) := by decide +kernel
theorem d_La_follow_9 : decode b_La_follow 9 = .ok (.lastore, 1) := by decide +kernel
theorem d_La_follow_10 : decode b_La_follow 10 = .ok (.goto 11, 3) := by decide +kernel
theorem d_La_follow_13 : decode b_La_follow 13 = .ok (.astore 4, 2) := by decide +kernel
theorem d_La_follow_15 : decode b_La_follow 15 = .ok (.iconst 1, 1) := by decide +kernel
theorem d_La_follow_16 : decode b_La_follow 16 = .ok (.ireturn, 1) := by decide +kernel
theorem d_La_follow_17 : decode b_La_follow 17 = .ok (.astore 4, 2) := by decide +kernel
theorem d_La_follow_19 : decode b_La_follow 19 = .ok (.iconst 2, 1) := by decide +kernel
theorem d_La_follow_20 : decode b_La_follow 20 = .ok (.ireturn, 1) := by decide +kernel
theorem d_La_follow_21 : decode b_La_follow 21 = .ok (.iconst 0, 1) := by decide +kernel
theorem d_La_follow_22 : decode b_La_follow 22 = .ok (.ireturn, 1) := by decide +kernel
abbrev b_La_chain : ByteArray := method_13_code
def y_La_chain : MethodName := ⟨RLa, "chain", "(LOrderBounds;I[J)I"⟩
theorem k_La_chain : Cond.codeWith y_La_chain b_La_chain 4 (some .int) [((0 : Nat), (9 : Nat), (12 : Nat), (24 : Nat))] ∈ tt := (tt3 122 rfl rfl)
theorem s_La_chain : Cond.static y_La_chain ∈ tt := (tt3 121 rfl rfl)
theorem d_La_chain_0 : decode b_La_chain 0 = .ok (.aload_n 2, 1) := by decide +kernel
theorem d_La_chain_1 : decode b_La_chain 1 = .ok (.iconst 0, 1) := by decide +kernel
theorem d_La_chain_2 : decode b_La_chain 2 = .ok (.aload_n 0, 1) := by decide +kernel
theorem d_La_chain_3 : decode b_La_chain 3 = .ok (.iload_n 1, 1) := by decide +kernel
theorem d_La_chain_4 : decode b_La_chain 4 = .ok (.invokevirtual 51, 3) := by decide +kernel
theorem d_La_chain_7 : decode b_La_chain 7 = .ok (.i2l, 1) := by decide +kernel
theorem d_La_chain_8 : decode b_La_chain 8 = .ok (.lastore, 1) := by decide +kernel
theorem d_La_chain_9 : decode b_La_chain 9 = .ok (.goto 6, 3) := by decide +kernel
theorem d_La_chain_12 : decode b_La_chain 12 = .ok (.astore_n 3, 1) := by decide +kernel
theorem d_La_chain_13 : decode b_La_chain 13 = .ok (.iconst 1, 1) := by decide +kernel
theorem d_La_chain_14 : decode b_La_chain 14 = .ok (.ireturn, 1) := by decide +kernel
theorem d_La_chain_15 : decode b_La_chain 15 = .ok (.iconst 0, 1) := by decide +kernel
theorem d_La_chain_16 : decode b_La_chain 16 = .ok (.ireturn, 1) := by decide +kernel
abbrev b_La_law : ByteArray := code
theorem d_La_law_0 : decode b_La_law 0 = .ok (.new 8, 3) := by decide +kernel
theorem d_La_law_3 : decode b_La_law 3 = .ok (.dup, 1) := by decide +kernel
theorem d_La_law_4 : decode b_La_law 4 = .ok (.invokespecial 54, 3) := by decide +kernel
theorem d_La_law_7 : decode b_La_law 7 = .ok (.astore_n 1, 1) := by decide +kernel
theorem d_La_law_8 : decode b_La_law 8 = .ok (.new 55, 3) := by decide +kernel
theorem d_La_law_11 : decode b_La_law 11 = .ok (.dup, 1) := by decide +kernel
theorem d_La_law_12 : decode b_La_law 12 = .ok (.invokespecial 57, 3) := by decide +kernel
theorem d_La_law_15 : decode b_La_law 15 = .ok (.astore_n 2, 1) := by decide +kernel
theorem d_La_law_16 : decode b_La_law 16 = .ok (.iconst 1, 1) := by decide +kernel
theorem d_La_law_17 : decode b_La_law 17 = .ok (.newarray .long, 2) := by decide +kernel
theorem d_La_law_19 : decode b_La_law 19 = .ok (.astore_n 3, 1) := by decide +kernel
theorem d_La_law_20 : decode b_La_law 20 = .ok (.iconst 0, 1) := by decide +kernel
theorem d_La_law_21 : decode b_La_law 21 = .ok (.istore 4, 2) := by decide +kernel
theorem d_La_law_23 : decode b_La_law 23 = .ok (.iload 4, 2) := by decide +kernel
theorem d_La_law_25 : decode b_La_law 25 = .ok (.aload_n 0, 1) := by decide +kernel
theorem d_La_law_26 : decode b_La_law 26 = .ok (.arraylength, 1) := by decide +kernel
theorem d_La_law_27 : decode b_La_law 27 = .ok (.iconst 4, 1) := by decide +kernel
theorem d_La_law_28 : decode b_La_law 28 = .ok (.isub, 1) := by decide +kernel
theorem d_La_law_29 : decode b_La_law 29 = .ok (.if_icmp .gt 789, 3) := by decide +kernel
theorem d_La_law_32 : decode b_La_law 32 = .ok (.aload_n 0, 1) := by decide +kernel
theorem d_La_law_33 : decode b_La_law 33 = .ok (.iload 4, 2) := by decide +kernel
theorem d_La_law_35 : decode b_La_law 35 = .ok (.iaload, 1) := by decide +kernel
theorem d_La_law_36 : decode b_La_law 36 = .ok (.bipush 15, 2) := by decide +kernel
theorem d_La_law_38 : decode b_La_law 38 = .ok (.iand, 1) := by decide +kernel
theorem d_La_law_39 : decode b_La_law 39 = .ok (.tableswitch 773 0 13 #[69, 137, 205, 265, 313, 381, 437, 493, 549, 597, 611, 624, 649, 717], 69) := by decide +kernel
theorem d_La_law_108 : decode b_La_law 108 = .ok (.aload_n 1, 1) := by decide +kernel
theorem d_La_law_109 : decode b_La_law 109 = .ok (.aload_n 0, 1) := by decide +kernel
theorem d_La_law_110 : decode b_La_law 110 = .ok (.iload 4, 2) := by decide +kernel
theorem d_La_law_112 : decode b_La_law 112 = .ok (.iconst 1, 1) := by decide +kernel
theorem d_La_law_113 : decode b_La_law 113 = .ok (.iadd, 1) := by decide +kernel
theorem d_La_law_114 : decode b_La_law 114 = .ok (.iaload, 1) := by decide +kernel
theorem d_La_law_115 : decode b_La_law 115 = .ok (.aload_n 0, 1) := by decide +kernel
theorem d_La_law_116 : decode b_La_law 116 = .ok (.iload 4, 2) := by decide +kernel
theorem d_La_law_118 : decode b_La_law 118 = .ok (.iconst 2, 1) := by decide +kernel
theorem d_La_law_119 : decode b_La_law 119 = .ok (.iadd, 1) := by decide +kernel
theorem d_La_law_120 : decode b_La_law 120 = .ok (.iaload, 1) := by decide +kernel
theorem d_La_law_121 : decode b_La_law 121 = .ok (.aload_n 3, 1) := by decide +kernel
theorem d_La_law_122 : decode b_La_law 122 = .ok (.invokestatic 58, 3) := by decide +kernel
theorem d_La_law_125 : decode b_La_law 125 = .ok (.istore 5, 2) := by decide +kernel
theorem d_La_law_127 : decode b_La_law 127 = .ok (.aload_n 2, 1) := by decide +kernel
theorem d_La_law_128 : decode b_La_law 128 = .ok (.aload_n 0, 1) := by decide +kernel
theorem d_La_law_129 : decode b_La_law 129 = .ok (.iload 4, 2) := by decide +kernel
theorem d_La_law_131 : decode b_La_law 131 = .ok (.iconst 1, 1) := by decide +kernel
theorem d_La_law_132 : decode b_La_law 132 = .ok (.iadd, 1) := by decide +kernel
theorem d_La_law_133 : decode b_La_law 133 = .ok (.iaload, 1) := by decide +kernel
theorem d_La_law_134 : decode b_La_law 134 = .ok (.aload_n 0, 1) := by decide +kernel
theorem d_La_law_135 : decode b_La_law 135 = .ok (.iload 4, 2) := by decide +kernel
theorem d_La_law_137 : decode b_La_law 137 = .ok (.iconst 2, 1) := by decide +kernel
theorem d_La_law_138 : decode b_La_law 138 = .ok (.iadd, 1) := by decide +kernel
theorem d_La_law_139 : decode b_La_law 139 = .ok (.iaload, 1) := by decide +kernel
theorem d_La_law_140 : decode b_La_law 140 = .ok (.invokevirtual 63, 3) := by decide +kernel
theorem d_La_law_143 : decode b_La_law 143 = .ok (.istore 6, 2) := by decide +kernel
theorem d_La_law_145 : decode b_La_law 145 = .ok (.aload_n 2, 1) := by decide +kernel
theorem d_La_law_146 : decode b_La_law 146 = .ok (.invokevirtual 64, 3) := by decide +kernel
theorem d_La_law_149 : decode b_La_law 149 = .ok (.iload 5, 2) := by decide +kernel
theorem d_La_law_151 : decode b_La_law 151 = .ok (.if_icmp .eq 5, 3) := by decide +kernel
theorem d_La_law_154 : decode b_La_law 154 = .ok (.iconst 0, 1) := by decide +kernel
theorem d_La_law_155 : decode b_La_law 155 = .ok (.ireturn, 1) := by decide +kernel
theorem d_La_law_156 : decode b_La_law 156 = .ok (.iload 5, 2) := by decide +kernel
theorem d_La_law_158 : decode b_La_law 158 = .ok (.ifCond .ne 15, 3) := by decide +kernel
theorem d_La_law_161 : decode b_La_law 161 = .ok (.aload_n 3, 1) := by decide +kernel
theorem d_La_law_162 : decode b_La_law 162 = .ok (.iconst 0, 1) := by decide +kernel
theorem d_La_law_163 : decode b_La_law 163 = .ok (.laload, 1) := by decide +kernel
theorem d_La_law_164 : decode b_La_law 164 = .ok (.iload 6, 2) := by decide +kernel
theorem d_La_law_166 : decode b_La_law 166 = .ok (.i2l, 1) := by decide +kernel
theorem d_La_law_167 : decode b_La_law 167 = .ok (.lcmp, 1) := by decide +kernel
theorem d_La_law_168 : decode b_La_law 168 = .ok (.ifCond .eq 5, 3) := by decide +kernel
theorem d_La_law_171 : decode b_La_law 171 = .ok (.iconst 0, 1) := by decide +kernel
theorem d_La_law_172 : decode b_La_law 172 = .ok (.ireturn, 1) := by decide +kernel
theorem d_La_law_173 : decode b_La_law 173 = .ok (.goto 639, 3) := by decide +kernel
theorem d_La_law_176 : decode b_La_law 176 = .ok (.aload_n 1, 1) := by decide +kernel
theorem d_La_law_177 : decode b_La_law 177 = .ok (.aload_n 0, 1) := by decide +kernel
theorem d_La_law_178 : decode b_La_law 178 = .ok (.iload 4, 2) := by decide +kernel
theorem d_La_law_180 : decode b_La_law 180 = .ok (.iconst 1, 1) := by decide +kernel
theorem d_La_law_181 : decode b_La_law 181 = .ok (.iadd, 1) := by decide +kernel
theorem d_La_law_182 : decode b_La_law 182 = .ok (.iaload, 1) := by decide +kernel
theorem d_La_law_183 : decode b_La_law 183 = .ok (.aload_n 0, 1) := by decide +kernel
theorem d_La_law_184 : decode b_La_law 184 = .ok (.iload 4, 2) := by decide +kernel
theorem d_La_law_186 : decode b_La_law 186 = .ok (.iconst 2, 1) := by decide +kernel
theorem d_La_law_187 : decode b_La_law 187 = .ok (.iadd, 1) := by decide +kernel
theorem d_La_law_188 : decode b_La_law 188 = .ok (.iaload, 1) := by decide +kernel
theorem d_La_law_189 : decode b_La_law 189 = .ok (.aload_n 3, 1) := by decide +kernel
theorem d_La_law_190 : decode b_La_law 190 = .ok (.invokestatic 68, 3) := by decide +kernel
theorem d_La_law_193 : decode b_La_law 193 = .ok (.istore 5, 2) := by decide +kernel
theorem d_La_law_195 : decode b_La_law 195 = .ok (.aload_n 2, 1) := by decide +kernel
theorem d_La_law_196 : decode b_La_law 196 = .ok (.aload_n 0, 1) := by decide +kernel
theorem d_La_law_197 : decode b_La_law 197 = .ok (.iload 4, 2) := by decide +kernel
theorem d_La_law_199 : decode b_La_law 199 = .ok (.iconst 1, 1) := by decide +kernel
theorem d_La_law_200 : decode b_La_law 200 = .ok (.iadd, 1) := by decide +kernel
theorem d_La_law_201 : decode b_La_law 201 = .ok (.iaload, 1) := by decide +kernel
theorem d_La_law_202 : decode b_La_law 202 = .ok (.aload_n 0, 1) := by decide +kernel
theorem d_La_law_203 : decode b_La_law 203 = .ok (.iload 4, 2) := by decide +kernel
theorem d_La_law_205 : decode b_La_law 205 = .ok (.iconst 2, 1) := by decide +kernel
theorem d_La_law_206 : decode b_La_law 206 = .ok (.iadd, 1) := by decide +kernel
theorem d_La_law_207 : decode b_La_law 207 = .ok (.iaload, 1) := by decide +kernel
theorem d_La_law_208 : decode b_La_law 208 = .ok (.invokevirtual 70, 3) := by decide +kernel
theorem d_La_law_211 : decode b_La_law 211 = .ok (.istore 6, 2) := by decide +kernel
theorem d_La_law_213 : decode b_La_law 213 = .ok (.aload_n 2, 1) := by decide +kernel
theorem d_La_law_214 : decode b_La_law 214 = .ok (.invokevirtual 64, 3) := by decide +kernel
theorem d_La_law_217 : decode b_La_law 217 = .ok (.iload 5, 2) := by decide +kernel
theorem d_La_law_219 : decode b_La_law 219 = .ok (.if_icmp .eq 5, 3) := by decide +kernel
theorem d_La_law_222 : decode b_La_law 222 = .ok (.iconst 0, 1) := by decide +kernel
theorem d_La_law_223 : decode b_La_law 223 = .ok (.ireturn, 1) := by decide +kernel
theorem d_La_law_224 : decode b_La_law 224 = .ok (.iload 5, 2) := by decide +kernel
theorem d_La_law_226 : decode b_La_law 226 = .ok (.ifCond .ne 15, 3) := by decide +kernel
theorem d_La_law_229 : decode b_La_law 229 = .ok (.aload_n 3, 1) := by decide +kernel
theorem d_La_law_230 : decode b_La_law 230 = .ok (.iconst 0, 1) := by decide +kernel
theorem d_La_law_231 : decode b_La_law 231 = .ok (.laload, 1) := by decide +kernel
theorem d_La_law_232 : decode b_La_law 232 = .ok (.iload 6, 2) := by decide +kernel
theorem d_La_law_234 : decode b_La_law 234 = .ok (.i2l, 1) := by decide +kernel
theorem d_La_law_235 : decode b_La_law 235 = .ok (.lcmp, 1) := by decide +kernel
theorem d_La_law_236 : decode b_La_law 236 = .ok (.ifCond .eq 5, 3) := by decide +kernel
theorem d_La_law_239 : decode b_La_law 239 = .ok (.iconst 0, 1) := by decide +kernel
theorem d_La_law_240 : decode b_La_law 240 = .ok (.ireturn, 1) := by decide +kernel
theorem d_La_law_241 : decode b_La_law 241 = .ok (.goto 571, 3) := by decide +kernel
theorem d_La_law_244 : decode b_La_law 244 = .ok (.aload_n 1, 1) := by decide +kernel
theorem d_La_law_245 : decode b_La_law 245 = .ok (.aload_n 0, 1) := by decide +kernel
theorem d_La_law_246 : decode b_La_law 246 = .ok (.iload 4, 2) := by decide +kernel
theorem d_La_law_248 : decode b_La_law 248 = .ok (.iconst 1, 1) := by decide +kernel
theorem d_La_law_249 : decode b_La_law 249 = .ok (.iadd, 1) := by decide +kernel
theorem d_La_law_250 : decode b_La_law 250 = .ok (.iaload, 1) := by decide +kernel
theorem d_La_law_251 : decode b_La_law 251 = .ok (.aload_n 0, 1) := by decide +kernel
theorem d_La_law_252 : decode b_La_law 252 = .ok (.iload 4, 2) := by decide +kernel
theorem d_La_law_254 : decode b_La_law 254 = .ok (.iconst 2, 1) := by decide +kernel
theorem d_La_law_255 : decode b_La_law 255 = .ok (.iadd, 1) := by decide +kernel
theorem d_La_law_256 : decode b_La_law 256 = .ok (.iaload, 1) := by decide +kernel
theorem d_La_law_257 : decode b_La_law 257 = .ok (.aload_n 0, 1) := by decide +kernel
theorem d_La_law_258 : decode b_La_law 258 = .ok (.iload 4, 2) := by decide +kernel
theorem d_La_law_260 : decode b_La_law 260 = .ok (.iconst 3, 1) := by decide +kernel
theorem d_La_law_261 : decode b_La_law 261 = .ok (.iadd, 1) := by decide +kernel
theorem d_La_law_262 : decode b_La_law 262 = .ok (.iaload, 1) := by decide +kernel
theorem d_La_law_263 : decode b_La_law 263 = .ok (.invokestatic 71, 3) := by decide +kernel
theorem d_La_law_266 : decode b_La_law 266 = .ok (.istore 5, 2) := by decide +kernel
theorem d_La_law_268 : decode b_La_law 268 = .ok (.aload_n 2, 1) := by decide +kernel
theorem d_La_law_269 : decode b_La_law 269 = .ok (.aload_n 0, 1) := by decide +kernel
theorem d_La_law_270 : decode b_La_law 270 = .ok (.iload 4, 2) := by decide +kernel
theorem d_La_law_272 : decode b_La_law 272 = .ok (.iconst 1, 1) := by decide +kernel
theorem d_La_law_273 : decode b_La_law 273 = .ok (.iadd, 1) := by decide +kernel
theorem d_La_law_274 : decode b_La_law 274 = .ok (.iaload, 1) := by decide +kernel
theorem d_La_law_275 : decode b_La_law 275 = .ok (.aload_n 0, 1) := by decide +kernel
theorem d_La_law_276 : decode b_La_law 276 = .ok (.iload 4, 2) := by decide +kernel
theorem d_La_law_278 : decode b_La_law 278 = .ok (.iconst 2, 1) := by decide +kernel
theorem d_La_law_279 : decode b_La_law 279 = .ok (.iadd, 1) := by decide +kernel
theorem d_La_law_280 : decode b_La_law 280 = .ok (.iaload, 1) := by decide +kernel
theorem d_La_law_281 : decode b_La_law 281 = .ok (.aload_n 0, 1) := by decide +kernel
theorem d_La_law_282 : decode b_La_law 282 = .ok (.iload 4, 2) := by decide +kernel
theorem d_La_law_284 : decode b_La_law 284 = .ok (.iconst 3, 1) := by decide +kernel
theorem d_La_law_285 : decode b_La_law 285 = .ok (.iadd, 1) := by decide +kernel
theorem d_La_law_286 : decode b_La_law 286 = .ok (.iaload, 1) := by decide +kernel
theorem d_La_law_287 : decode b_La_law 287 = .ok (.invokevirtual 74, 3) := by decide +kernel
theorem d_La_law_290 : decode b_La_law 290 = .ok (.aload_n 2, 1) := by decide +kernel
theorem d_La_law_291 : decode b_La_law 291 = .ok (.invokevirtual 64, 3) := by decide +kernel
theorem d_La_law_294 : decode b_La_law 294 = .ok (.iload 5, 2) := by decide +kernel
theorem d_La_law_296 : decode b_La_law 296 = .ok (.if_icmp .eq 5, 3) := by decide +kernel
theorem d_La_law_299 : decode b_La_law 299 = .ok (.iconst 0, 1) := by decide +kernel
theorem d_La_law_300 : decode b_La_law 300 = .ok (.ireturn, 1) := by decide +kernel
theorem d_La_law_301 : decode b_La_law 301 = .ok (.goto 511, 3) := by decide +kernel
theorem d_La_law_304 : decode b_La_law 304 = .ok (.aload_n 1, 1) := by decide +kernel
theorem d_La_law_305 : decode b_La_law 305 = .ok (.aload_n 0, 1) := by decide +kernel
theorem d_La_law_306 : decode b_La_law 306 = .ok (.iload 4, 2) := by decide +kernel
theorem d_La_law_308 : decode b_La_law 308 = .ok (.iconst 1, 1) := by decide +kernel
theorem d_La_law_309 : decode b_La_law 309 = .ok (.iadd, 1) := by decide +kernel
theorem d_La_law_310 : decode b_La_law 310 = .ok (.iaload, 1) := by decide +kernel
theorem d_La_law_311 : decode b_La_law 311 = .ok (.aload_n 0, 1) := by decide +kernel
theorem d_La_law_312 : decode b_La_law 312 = .ok (.iload 4, 2) := by decide +kernel
theorem d_La_law_314 : decode b_La_law 314 = .ok (.iconst 2, 1) := by decide +kernel
theorem d_La_law_315 : decode b_La_law 315 = .ok (.iadd, 1) := by decide +kernel
theorem d_La_law_316 : decode b_La_law 316 = .ok (.iaload, 1) := by decide +kernel
theorem d_La_law_317 : decode b_La_law 317 = .ok (.invokestatic 75, 3) := by decide +kernel
theorem d_La_law_320 : decode b_La_law 320 = .ok (.istore 5, 2) := by decide +kernel
theorem d_La_law_322 : decode b_La_law 322 = .ok (.aload_n 2, 1) := by decide +kernel
theorem d_La_law_323 : decode b_La_law 323 = .ok (.aload_n 0, 1) := by decide +kernel
theorem d_La_law_324 : decode b_La_law 324 = .ok (.iload 4, 2) := by decide +kernel
theorem d_La_law_326 : decode b_La_law 326 = .ok (.iconst 1, 1) := by decide +kernel
theorem d_La_law_327 : decode b_La_law 327 = .ok (.iadd, 1) := by decide +kernel
theorem d_La_law_328 : decode b_La_law 328 = .ok (.iaload, 1) := by decide +kernel
theorem d_La_law_329 : decode b_La_law 329 = .ok (.aload_n 0, 1) := by decide +kernel
theorem d_La_law_330 : decode b_La_law 330 = .ok (.iload 4, 2) := by decide +kernel
theorem d_La_law_332 : decode b_La_law 332 = .ok (.iconst 2, 1) := by decide +kernel
theorem d_La_law_333 : decode b_La_law 333 = .ok (.iadd, 1) := by decide +kernel
theorem d_La_law_334 : decode b_La_law 334 = .ok (.iaload, 1) := by decide +kernel
theorem d_La_law_335 : decode b_La_law 335 = .ok (.invokevirtual 78, 3) := by decide +kernel
theorem d_La_law_338 : decode b_La_law 338 = .ok (.aload_n 2, 1) := by decide +kernel
theorem d_La_law_339 : decode b_La_law 339 = .ok (.invokevirtual 64, 3) := by decide +kernel
theorem d_La_law_342 : decode b_La_law 342 = .ok (.iload 5, 2) := by decide +kernel
theorem d_La_law_344 : decode b_La_law 344 = .ok (.if_icmp .eq 5, 3) := by decide +kernel
theorem d_La_law_347 : decode b_La_law 347 = .ok (.iconst 0, 1) := by decide +kernel
theorem d_La_law_348 : decode b_La_law 348 = .ok (.ireturn, 1) := by decide +kernel
theorem d_La_law_349 : decode b_La_law 349 = .ok (.goto 463, 3) := by decide +kernel
theorem d_La_law_352 : decode b_La_law 352 = .ok (.aload_n 1, 1) := by decide +kernel
theorem d_La_law_353 : decode b_La_law 353 = .ok (.aload_n 0, 1) := by decide +kernel
theorem d_La_law_354 : decode b_La_law 354 = .ok (.iload 4, 2) := by decide +kernel
theorem d_La_law_356 : decode b_La_law 356 = .ok (.iconst 1, 1) := by decide +kernel
theorem d_La_law_357 : decode b_La_law 357 = .ok (.iadd, 1) := by decide +kernel
theorem d_La_law_358 : decode b_La_law 358 = .ok (.iaload, 1) := by decide +kernel
theorem d_La_law_359 : decode b_La_law 359 = .ok (.aload_n 0, 1) := by decide +kernel
theorem d_La_law_360 : decode b_La_law 360 = .ok (.iload 4, 2) := by decide +kernel
theorem d_La_law_362 : decode b_La_law 362 = .ok (.iconst 2, 1) := by decide +kernel
theorem d_La_law_363 : decode b_La_law 363 = .ok (.iadd, 1) := by decide +kernel
theorem d_La_law_364 : decode b_La_law 364 = .ok (.iaload, 1) := by decide +kernel
theorem d_La_law_365 : decode b_La_law 365 = .ok (.aload_n 3, 1) := by decide +kernel
theorem d_La_law_366 : decode b_La_law 366 = .ok (.invokestatic 79, 3) := by decide +kernel
theorem d_La_law_369 : decode b_La_law 369 = .ok (.istore 5, 2) := by decide +kernel
theorem d_La_law_371 : decode b_La_law 371 = .ok (.aload_n 2, 1) := by decide +kernel
theorem d_La_law_372 : decode b_La_law 372 = .ok (.aload_n 0, 1) := by decide +kernel
theorem d_La_law_373 : decode b_La_law 373 = .ok (.iload 4, 2) := by decide +kernel
theorem d_La_law_375 : decode b_La_law 375 = .ok (.iconst 1, 1) := by decide +kernel
theorem d_La_law_376 : decode b_La_law 376 = .ok (.iadd, 1) := by decide +kernel
theorem d_La_law_377 : decode b_La_law 377 = .ok (.iaload, 1) := by decide +kernel
theorem d_La_law_378 : decode b_La_law 378 = .ok (.aload_n 0, 1) := by decide +kernel
theorem d_La_law_379 : decode b_La_law 379 = .ok (.iload 4, 2) := by decide +kernel
theorem d_La_law_381 : decode b_La_law 381 = .ok (.iconst 2, 1) := by decide +kernel
theorem d_La_law_382 : decode b_La_law 382 = .ok (.iadd, 1) := by decide +kernel
theorem d_La_law_383 : decode b_La_law 383 = .ok (.iaload, 1) := by decide +kernel
theorem d_La_law_384 : decode b_La_law 384 = .ok (.invokevirtual 81, 3) := by decide +kernel
theorem d_La_law_387 : decode b_La_law 387 = .ok (.istore 6, 2) := by decide +kernel
theorem d_La_law_389 : decode b_La_law 389 = .ok (.aload_n 2, 1) := by decide +kernel
theorem d_La_law_390 : decode b_La_law 390 = .ok (.invokevirtual 64, 3) := by decide +kernel
theorem d_La_law_393 : decode b_La_law 393 = .ok (.iload 5, 2) := by decide +kernel
theorem d_La_law_395 : decode b_La_law 395 = .ok (.if_icmp .eq 5, 3) := by decide +kernel
theorem d_La_law_398 : decode b_La_law 398 = .ok (.iconst 0, 1) := by decide +kernel
theorem d_La_law_399 : decode b_La_law 399 = .ok (.ireturn, 1) := by decide +kernel
theorem d_La_law_400 : decode b_La_law 400 = .ok (.iload 5, 2) := by decide +kernel
theorem d_La_law_402 : decode b_La_law 402 = .ok (.ifCond .ne 15, 3) := by decide +kernel
theorem d_La_law_405 : decode b_La_law 405 = .ok (.aload_n 3, 1) := by decide +kernel
theorem d_La_law_406 : decode b_La_law 406 = .ok (.iconst 0, 1) := by decide +kernel
theorem d_La_law_407 : decode b_La_law 407 = .ok (.laload, 1) := by decide +kernel
theorem d_La_law_408 : decode b_La_law 408 = .ok (.iload 6, 2) := by decide +kernel
theorem d_La_law_410 : decode b_La_law 410 = .ok (.i2l, 1) := by decide +kernel
theorem d_La_law_411 : decode b_La_law 411 = .ok (.lcmp, 1) := by decide +kernel
theorem d_La_law_412 : decode b_La_law 412 = .ok (.ifCond .eq 5, 3) := by decide +kernel
theorem d_La_law_415 : decode b_La_law 415 = .ok (.iconst 0, 1) := by decide +kernel
theorem d_La_law_416 : decode b_La_law 416 = .ok (.ireturn, 1) := by decide +kernel
theorem d_La_law_417 : decode b_La_law 417 = .ok (.goto 395, 3) := by decide +kernel
theorem d_La_law_420 : decode b_La_law 420 = .ok (.aload_n 1, 1) := by decide +kernel
theorem d_La_law_421 : decode b_La_law 421 = .ok (.aload_n 0, 1) := by decide +kernel
theorem d_La_law_422 : decode b_La_law 422 = .ok (.iload 4, 2) := by decide +kernel
theorem d_La_law_424 : decode b_La_law 424 = .ok (.iconst 1, 1) := by decide +kernel
theorem d_La_law_425 : decode b_La_law 425 = .ok (.iadd, 1) := by decide +kernel
theorem d_La_law_426 : decode b_La_law 426 = .ok (.iaload, 1) := by decide +kernel
theorem d_La_law_427 : decode b_La_law 427 = .ok (.aload_n 3, 1) := by decide +kernel
theorem d_La_law_428 : decode b_La_law 428 = .ok (.invokestatic 82, 3) := by decide +kernel
theorem d_La_law_431 : decode b_La_law 431 = .ok (.istore 5, 2) := by decide +kernel
theorem d_La_law_433 : decode b_La_law 433 = .ok (.aload_n 2, 1) := by decide +kernel
theorem d_La_law_434 : decode b_La_law 434 = .ok (.aload_n 0, 1) := by decide +kernel
theorem d_La_law_435 : decode b_La_law 435 = .ok (.iload 4, 2) := by decide +kernel
theorem d_La_law_437 : decode b_La_law 437 = .ok (.iconst 1, 1) := by decide +kernel
theorem d_La_law_438 : decode b_La_law 438 = .ok (.iadd, 1) := by decide +kernel
theorem d_La_law_439 : decode b_La_law 439 = .ok (.iaload, 1) := by decide +kernel
theorem d_La_law_440 : decode b_La_law 440 = .ok (.invokevirtual 85, 3) := by decide +kernel
theorem d_La_law_443 : decode b_La_law 443 = .ok (.istore 6, 2) := by decide +kernel
theorem d_La_law_445 : decode b_La_law 445 = .ok (.aload_n 2, 1) := by decide +kernel
theorem d_La_law_446 : decode b_La_law 446 = .ok (.invokevirtual 64, 3) := by decide +kernel
theorem d_La_law_449 : decode b_La_law 449 = .ok (.iload 5, 2) := by decide +kernel
theorem d_La_law_451 : decode b_La_law 451 = .ok (.if_icmp .eq 5, 3) := by decide +kernel
theorem d_La_law_454 : decode b_La_law 454 = .ok (.iconst 0, 1) := by decide +kernel
theorem d_La_law_455 : decode b_La_law 455 = .ok (.ireturn, 1) := by decide +kernel
theorem d_La_law_456 : decode b_La_law 456 = .ok (.iload 5, 2) := by decide +kernel
theorem d_La_law_458 : decode b_La_law 458 = .ok (.ifCond .ne 15, 3) := by decide +kernel
theorem d_La_law_461 : decode b_La_law 461 = .ok (.aload_n 3, 1) := by decide +kernel
theorem d_La_law_462 : decode b_La_law 462 = .ok (.iconst 0, 1) := by decide +kernel
theorem d_La_law_463 : decode b_La_law 463 = .ok (.laload, 1) := by decide +kernel
theorem d_La_law_464 : decode b_La_law 464 = .ok (.iload 6, 2) := by decide +kernel
theorem d_La_law_466 : decode b_La_law 466 = .ok (.i2l, 1) := by decide +kernel
theorem d_La_law_467 : decode b_La_law 467 = .ok (.lcmp, 1) := by decide +kernel
theorem d_La_law_468 : decode b_La_law 468 = .ok (.ifCond .eq 5, 3) := by decide +kernel
theorem d_La_law_471 : decode b_La_law 471 = .ok (.iconst 0, 1) := by decide +kernel
theorem d_La_law_472 : decode b_La_law 472 = .ok (.ireturn, 1) := by decide +kernel
theorem d_La_law_473 : decode b_La_law 473 = .ok (.goto 339, 3) := by decide +kernel
theorem d_La_law_476 : decode b_La_law 476 = .ok (.aload_n 1, 1) := by decide +kernel
theorem d_La_law_477 : decode b_La_law 477 = .ok (.aload_n 0, 1) := by decide +kernel
theorem d_La_law_478 : decode b_La_law 478 = .ok (.iload 4, 2) := by decide +kernel
theorem d_La_law_480 : decode b_La_law 480 = .ok (.iconst 1, 1) := by decide +kernel
theorem d_La_law_481 : decode b_La_law 481 = .ok (.iadd, 1) := by decide +kernel
theorem d_La_law_482 : decode b_La_law 482 = .ok (.iaload, 1) := by decide +kernel
theorem d_La_law_483 : decode b_La_law 483 = .ok (.aload_n 3, 1) := by decide +kernel
theorem d_La_law_484 : decode b_La_law 484 = .ok (.invokestatic 86, 3) := by decide +kernel
theorem d_La_law_487 : decode b_La_law 487 = .ok (.istore 5, 2) := by decide +kernel
theorem d_La_law_489 : decode b_La_law 489 = .ok (.aload_n 2, 1) := by decide +kernel
theorem d_La_law_490 : decode b_La_law 490 = .ok (.aload_n 0, 1) := by decide +kernel
theorem d_La_law_491 : decode b_La_law 491 = .ok (.iload 4, 2) := by decide +kernel
theorem d_La_law_493 : decode b_La_law 493 = .ok (.iconst 1, 1) := by decide +kernel
theorem d_La_law_494 : decode b_La_law 494 = .ok (.iadd, 1) := by decide +kernel
theorem d_La_law_495 : decode b_La_law 495 = .ok (.iaload, 1) := by decide +kernel
theorem d_La_law_496 : decode b_La_law 496 = .ok (.invokevirtual 88, 3) := by decide +kernel
theorem d_La_law_499 : decode b_La_law 499 = .ok (.istore 6, 2) := by decide +kernel
theorem d_La_law_501 : decode b_La_law 501 = .ok (.aload_n 2, 1) := by decide +kernel
theorem d_La_law_502 : decode b_La_law 502 = .ok (.invokevirtual 64, 3) := by decide +kernel
theorem d_La_law_505 : decode b_La_law 505 = .ok (.iload 5, 2) := by decide +kernel
theorem d_La_law_507 : decode b_La_law 507 = .ok (.if_icmp .eq 5, 3) := by decide +kernel
theorem d_La_law_510 : decode b_La_law 510 = .ok (.iconst 0, 1) := by decide +kernel
theorem d_La_law_511 : decode b_La_law 511 = .ok (.ireturn, 1) := by decide +kernel
theorem d_La_law_512 : decode b_La_law 512 = .ok (.iload 5, 2) := by decide +kernel
theorem d_La_law_514 : decode b_La_law 514 = .ok (.ifCond .ne 15, 3) := by decide +kernel
theorem d_La_law_517 : decode b_La_law 517 = .ok (.aload_n 3, 1) := by decide +kernel
theorem d_La_law_518 : decode b_La_law 518 = .ok (.iconst 0, 1) := by decide +kernel
theorem d_La_law_519 : decode b_La_law 519 = .ok (.laload, 1) := by decide +kernel
theorem d_La_law_520 : decode b_La_law 520 = .ok (.iload 6, 2) := by decide +kernel
theorem d_La_law_522 : decode b_La_law 522 = .ok (.i2l, 1) := by decide +kernel
theorem d_La_law_523 : decode b_La_law 523 = .ok (.lcmp, 1) := by decide +kernel
theorem d_La_law_524 : decode b_La_law 524 = .ok (.ifCond .eq 5, 3) := by decide +kernel
theorem d_La_law_527 : decode b_La_law 527 = .ok (.iconst 0, 1) := by decide +kernel
theorem d_La_law_528 : decode b_La_law 528 = .ok (.ireturn, 1) := by decide +kernel
theorem d_La_law_529 : decode b_La_law 529 = .ok (.goto 283, 3) := by decide +kernel
theorem d_La_law_532 : decode b_La_law 532 = .ok (.aload_n 1, 1) := by decide +kernel
theorem d_La_law_533 : decode b_La_law 533 = .ok (.aload_n 0, 1) := by decide +kernel
theorem d_La_law_534 : decode b_La_law 534 = .ok (.iload 4, 2) := by decide +kernel
theorem d_La_law_536 : decode b_La_law 536 = .ok (.iconst 1, 1) := by decide +kernel
theorem d_La_law_537 : decode b_La_law 537 = .ok (.iadd, 1) := by decide +kernel
theorem d_La_law_538 : decode b_La_law 538 = .ok (.iaload, 1) := by decide +kernel
theorem d_La_law_539 : decode b_La_law 539 = .ok (.aload_n 3, 1) := by decide +kernel
theorem d_La_law_540 : decode b_La_law 540 = .ok (.invokestatic 89, 3) := by decide +kernel
theorem d_La_law_543 : decode b_La_law 543 = .ok (.istore 5, 2) := by decide +kernel
theorem d_La_law_545 : decode b_La_law 545 = .ok (.aload_n 2, 1) := by decide +kernel
theorem d_La_law_546 : decode b_La_law 546 = .ok (.aload_n 0, 1) := by decide +kernel
theorem d_La_law_547 : decode b_La_law 547 = .ok (.iload 4, 2) := by decide +kernel
theorem d_La_law_549 : decode b_La_law 549 = .ok (.iconst 1, 1) := by decide +kernel
theorem d_La_law_550 : decode b_La_law 550 = .ok (.iadd, 1) := by decide +kernel
theorem d_La_law_551 : decode b_La_law 551 = .ok (.iaload, 1) := by decide +kernel
theorem d_La_law_552 : decode b_La_law 552 = .ok (.invokevirtual 91, 3) := by decide +kernel
theorem d_La_law_555 : decode b_La_law 555 = .ok (.istore 6, 2) := by decide +kernel
theorem d_La_law_557 : decode b_La_law 557 = .ok (.aload_n 2, 1) := by decide +kernel
theorem d_La_law_558 : decode b_La_law 558 = .ok (.invokevirtual 64, 3) := by decide +kernel
theorem d_La_law_561 : decode b_La_law 561 = .ok (.iload 5, 2) := by decide +kernel
theorem d_La_law_563 : decode b_La_law 563 = .ok (.if_icmp .eq 5, 3) := by decide +kernel
theorem d_La_law_566 : decode b_La_law 566 = .ok (.iconst 0, 1) := by decide +kernel
theorem d_La_law_567 : decode b_La_law 567 = .ok (.ireturn, 1) := by decide +kernel
theorem d_La_law_568 : decode b_La_law 568 = .ok (.iload 5, 2) := by decide +kernel
theorem d_La_law_570 : decode b_La_law 570 = .ok (.ifCond .ne 15, 3) := by decide +kernel
theorem d_La_law_573 : decode b_La_law 573 = .ok (.aload_n 3, 1) := by decide +kernel
theorem d_La_law_574 : decode b_La_law 574 = .ok (.iconst 0, 1) := by decide +kernel
theorem d_La_law_575 : decode b_La_law 575 = .ok (.laload, 1) := by decide +kernel
theorem d_La_law_576 : decode b_La_law 576 = .ok (.iload 6, 2) := by decide +kernel
theorem d_La_law_578 : decode b_La_law 578 = .ok (.i2l, 1) := by decide +kernel
theorem d_La_law_579 : decode b_La_law 579 = .ok (.lcmp, 1) := by decide +kernel
theorem d_La_law_580 : decode b_La_law 580 = .ok (.ifCond .eq 5, 3) := by decide +kernel
theorem d_La_law_583 : decode b_La_law 583 = .ok (.iconst 0, 1) := by decide +kernel
theorem d_La_law_584 : decode b_La_law 584 = .ok (.ireturn, 1) := by decide +kernel
theorem d_La_law_585 : decode b_La_law 585 = .ok (.goto 227, 3) := by decide +kernel
theorem d_La_law_588 : decode b_La_law 588 = .ok (.aload_n 1, 1) := by decide +kernel
theorem d_La_law_589 : decode b_La_law 589 = .ok (.aload_n 0, 1) := by decide +kernel
theorem d_La_law_590 : decode b_La_law 590 = .ok (.iload 4, 2) := by decide +kernel
theorem d_La_law_592 : decode b_La_law 592 = .ok (.iconst 1, 1) := by decide +kernel
theorem d_La_law_593 : decode b_La_law 593 = .ok (.iadd, 1) := by decide +kernel
theorem d_La_law_594 : decode b_La_law 594 = .ok (.iaload, 1) := by decide +kernel
theorem d_La_law_595 : decode b_La_law 595 = .ok (.aload_n 0, 1) := by decide +kernel
theorem d_La_law_596 : decode b_La_law 596 = .ok (.iload 4, 2) := by decide +kernel
theorem d_La_law_598 : decode b_La_law 598 = .ok (.iconst 2, 1) := by decide +kernel
theorem d_La_law_599 : decode b_La_law 599 = .ok (.iadd, 1) := by decide +kernel
theorem d_La_law_600 : decode b_La_law 600 = .ok (.iaload, 1) := by decide +kernel
theorem d_La_law_601 : decode b_La_law 601 = .ok (.invokestatic 92, 3) := by decide +kernel
theorem d_La_law_604 : decode b_La_law 604 = .ok (.istore 5, 2) := by decide +kernel
theorem d_La_law_606 : decode b_La_law 606 = .ok (.aload_n 2, 1) := by decide +kernel
theorem d_La_law_607 : decode b_La_law 607 = .ok (.aload_n 0, 1) := by decide +kernel
theorem d_La_law_608 : decode b_La_law 608 = .ok (.iload 4, 2) := by decide +kernel
theorem d_La_law_610 : decode b_La_law 610 = .ok (.iconst 1, 1) := by decide +kernel
theorem d_La_law_611 : decode b_La_law 611 = .ok (.iadd, 1) := by decide +kernel
theorem d_La_law_612 : decode b_La_law 612 = .ok (.iaload, 1) := by decide +kernel
theorem d_La_law_613 : decode b_La_law 613 = .ok (.aload_n 0, 1) := by decide +kernel
theorem d_La_law_614 : decode b_La_law 614 = .ok (.iload 4, 2) := by decide +kernel
theorem d_La_law_616 : decode b_La_law 616 = .ok (.iconst 2, 1) := by decide +kernel
theorem d_La_law_617 : decode b_La_law 617 = .ok (.iadd, 1) := by decide +kernel
theorem d_La_law_618 : decode b_La_law 618 = .ok (.iaload, 1) := by decide +kernel
theorem d_La_law_619 : decode b_La_law 619 = .ok (.invokevirtual 94, 3) := by decide +kernel
theorem d_La_law_622 : decode b_La_law 622 = .ok (.aload_n 2, 1) := by decide +kernel
theorem d_La_law_623 : decode b_La_law 623 = .ok (.invokevirtual 64, 3) := by decide +kernel
theorem d_La_law_626 : decode b_La_law 626 = .ok (.iload 5, 2) := by decide +kernel
theorem d_La_law_628 : decode b_La_law 628 = .ok (.if_icmp .eq 5, 3) := by decide +kernel
theorem d_La_law_631 : decode b_La_law 631 = .ok (.iconst 0, 1) := by decide +kernel
theorem d_La_law_632 : decode b_La_law 632 = .ok (.ireturn, 1) := by decide +kernel
theorem d_La_law_633 : decode b_La_law 633 = .ok (.goto 179, 3) := by decide +kernel
theorem d_La_law_636 : decode b_La_law 636 = .ok (.aload_n 1, 1) := by decide +kernel
theorem d_La_law_637 : decode b_La_law 637 = .ok (.invokevirtual 95, 3) := by decide +kernel
theorem d_La_law_640 : decode b_La_law 640 = .ok (.aload_n 2, 1) := by decide +kernel
theorem d_La_law_641 : decode b_La_law 641 = .ok (.invokevirtual 99, 3) := by decide +kernel
theorem d_La_law_644 : decode b_La_law 644 = .ok (.lcmp, 1) := by decide +kernel
theorem d_La_law_645 : decode b_La_law 645 = .ok (.ifCond .eq 167, 3) := by decide +kernel
theorem d_La_law_648 : decode b_La_law 648 = .ok (.iconst 0, 1) := by decide +kernel
theorem d_La_law_649 : decode b_La_law 649 = .ok (.ireturn, 1) := by decide +kernel
theorem d_La_law_650 : decode b_La_law 650 = .ok (.aload_n 1, 1) := by decide +kernel
theorem d_La_law_651 : decode b_La_law 651 = .ok (.invokevirtual 100, 3) := by decide +kernel
theorem d_La_law_654 : decode b_La_law 654 = .ok (.aload_n 2, 1) := by decide +kernel
theorem d_La_law_655 : decode b_La_law 655 = .ok (.invokevirtual 103, 3) := by decide +kernel
theorem d_La_law_658 : decode b_La_law 658 = .ok (.if_icmp .eq 154, 3) := by decide +kernel
theorem d_La_law_661 : decode b_La_law 661 = .ok (.iconst 0, 1) := by decide +kernel
theorem d_La_law_662 : decode b_La_law 662 = .ok (.ireturn, 1) := by decide +kernel
theorem d_La_law_663 : decode b_La_law 663 = .ok (.aload_n 1, 1) := by decide +kernel
theorem d_La_law_664 : decode b_La_law 664 = .ok (.aload_n 0, 1) := by decide +kernel
theorem d_La_law_665 : decode b_La_law 665 = .ok (.iload 4, 2) := by decide +kernel
theorem d_La_law_667 : decode b_La_law 667 = .ok (.iconst 1, 1) := by decide +kernel
theorem d_La_law_668 : decode b_La_law 668 = .ok (.iadd, 1) := by decide +kernel
theorem d_La_law_669 : decode b_La_law 669 = .ok (.iaload, 1) := by decide +kernel
theorem d_La_law_670 : decode b_La_law 670 = .ok (.invokevirtual 104, 3) := by decide +kernel
theorem d_La_law_673 : decode b_La_law 673 = .ok (.aload_n 2, 1) := by decide +kernel
theorem d_La_law_674 : decode b_La_law 674 = .ok (.aload_n 0, 1) := by decide +kernel
theorem d_La_law_675 : decode b_La_law 675 = .ok (.iload 4, 2) := by decide +kernel
theorem d_La_law_677 : decode b_La_law 677 = .ok (.iconst 1, 1) := by decide +kernel
theorem d_La_law_678 : decode b_La_law 678 = .ok (.iadd, 1) := by decide +kernel
theorem d_La_law_679 : decode b_La_law 679 = .ok (.iaload, 1) := by decide +kernel
theorem d_La_law_680 : decode b_La_law 680 = .ok (.invokevirtual 107, 3) := by decide +kernel
theorem d_La_law_683 : decode b_La_law 683 = .ok (.if_icmp .eq 129, 3) := by decide +kernel
theorem d_La_law_686 : decode b_La_law 686 = .ok (.iconst 0, 1) := by decide +kernel
theorem d_La_law_687 : decode b_La_law 687 = .ok (.ireturn, 1) := by decide +kernel
theorem d_La_law_688 : decode b_La_law 688 = .ok (.aload_n 1, 1) := by decide +kernel
theorem d_La_law_689 : decode b_La_law 689 = .ok (.aload_n 0, 1) := by decide +kernel
theorem d_La_law_690 : decode b_La_law 690 = .ok (.iload 4, 2) := by decide +kernel
theorem d_La_law_692 : decode b_La_law 692 = .ok (.iconst 1, 1) := by decide +kernel
theorem d_La_law_693 : decode b_La_law 693 = .ok (.iadd, 1) := by decide +kernel
theorem d_La_law_694 : decode b_La_law 694 = .ok (.iaload, 1) := by decide +kernel
theorem d_La_law_695 : decode b_La_law 695 = .ok (.aload_n 0, 1) := by decide +kernel
theorem d_La_law_696 : decode b_La_law 696 = .ok (.iload 4, 2) := by decide +kernel
theorem d_La_law_698 : decode b_La_law 698 = .ok (.iconst 2, 1) := by decide +kernel
theorem d_La_law_699 : decode b_La_law 699 = .ok (.iadd, 1) := by decide +kernel
theorem d_La_law_700 : decode b_La_law 700 = .ok (.iaload, 1) := by decide +kernel
theorem d_La_law_701 : decode b_La_law 701 = .ok (.aload_n 3, 1) := by decide +kernel
theorem d_La_law_702 : decode b_La_law 702 = .ok (.invokestatic 108, 3) := by decide +kernel
theorem d_La_law_705 : decode b_La_law 705 = .ok (.istore 5, 2) := by decide +kernel
theorem d_La_law_707 : decode b_La_law 707 = .ok (.aload_n 2, 1) := by decide +kernel
theorem d_La_law_708 : decode b_La_law 708 = .ok (.aload_n 0, 1) := by decide +kernel
theorem d_La_law_709 : decode b_La_law 709 = .ok (.iload 4, 2) := by decide +kernel
theorem d_La_law_711 : decode b_La_law 711 = .ok (.iconst 1, 1) := by decide +kernel
theorem d_La_law_712 : decode b_La_law 712 = .ok (.iadd, 1) := by decide +kernel
theorem d_La_law_713 : decode b_La_law 713 = .ok (.iaload, 1) := by decide +kernel
theorem d_La_law_714 : decode b_La_law 714 = .ok (.aload_n 0, 1) := by decide +kernel
theorem d_La_law_715 : decode b_La_law 715 = .ok (.iload 4, 2) := by decide +kernel
theorem d_La_law_717 : decode b_La_law 717 = .ok (.iconst 2, 1) := by decide +kernel
theorem d_La_law_718 : decode b_La_law 718 = .ok (.iadd, 1) := by decide +kernel
theorem d_La_law_719 : decode b_La_law 719 = .ok (.iaload, 1) := by decide +kernel
theorem d_La_law_720 : decode b_La_law 720 = .ok (.invokevirtual 110, 3) := by decide +kernel
theorem d_La_law_723 : decode b_La_law 723 = .ok (.istore 6, 2) := by decide +kernel
theorem d_La_law_725 : decode b_La_law 725 = .ok (.aload_n 2, 1) := by decide +kernel
theorem d_La_law_726 : decode b_La_law 726 = .ok (.invokevirtual 64, 3) := by decide +kernel
theorem d_La_law_729 : decode b_La_law 729 = .ok (.iload 5, 2) := by decide +kernel
theorem d_La_law_731 : decode b_La_law 731 = .ok (.if_icmp .eq 5, 3) := by decide +kernel
theorem d_La_law_734 : decode b_La_law 734 = .ok (.iconst 0, 1) := by decide +kernel
theorem d_La_law_735 : decode b_La_law 735 = .ok (.ireturn, 1) := by decide +kernel
theorem d_La_law_736 : decode b_La_law 736 = .ok (.iload 5, 2) := by decide +kernel
theorem d_La_law_738 : decode b_La_law 738 = .ok (.ifCond .ne 15, 3) := by decide +kernel
theorem d_La_law_741 : decode b_La_law 741 = .ok (.aload_n 3, 1) := by decide +kernel
theorem d_La_law_742 : decode b_La_law 742 = .ok (.iconst 0, 1) := by decide +kernel
theorem d_La_law_743 : decode b_La_law 743 = .ok (.laload, 1) := by decide +kernel
theorem d_La_law_744 : decode b_La_law 744 = .ok (.iload 6, 2) := by decide +kernel
theorem d_La_law_746 : decode b_La_law 746 = .ok (.i2l, 1) := by decide +kernel
theorem d_La_law_747 : decode b_La_law 747 = .ok (.lcmp, 1) := by decide +kernel
theorem d_La_law_748 : decode b_La_law 748 = .ok (.ifCond .eq 5, 3) := by decide +kernel
theorem d_La_law_751 : decode b_La_law 751 = .ok (.iconst 0, 1) := by decide +kernel
theorem d_La_law_752 : decode b_La_law 752 = .ok (.ireturn, 1) := by decide +kernel
theorem d_La_law_753 : decode b_La_law 753 = .ok (.goto 59, 3) := by decide +kernel
theorem d_La_law_756 : decode b_La_law 756 = .ok (.aload_n 1, 1) := by decide +kernel
theorem d_La_law_757 : decode b_La_law 757 = .ok (.aload_n 0, 1) := by decide +kernel
theorem d_La_law_758 : decode b_La_law 758 = .ok (.iload 4, 2) := by decide +kernel
theorem d_La_law_760 : decode b_La_law 760 = .ok (.iconst 1, 1) := by decide +kernel
theorem d_La_law_761 : decode b_La_law 761 = .ok (.iadd, 1) := by decide +kernel
theorem d_La_law_762 : decode b_La_law 762 = .ok (.iaload, 1) := by decide +kernel
theorem d_La_law_763 : decode b_La_law 763 = .ok (.aload_n 3, 1) := by decide +kernel
theorem d_La_law_764 : decode b_La_law 764 = .ok (.invokestatic 111, 3) := by decide +kernel
theorem d_La_law_767 : decode b_La_law 767 = .ok (.istore 5, 2) := by decide +kernel
theorem d_La_law_769 : decode b_La_law 769 = .ok (.aload_n 2, 1) := by decide +kernel
theorem d_La_law_770 : decode b_La_law 770 = .ok (.aload_n 0, 1) := by decide +kernel
theorem d_La_law_771 : decode b_La_law 771 = .ok (.iload 4, 2) := by decide +kernel
theorem d_La_law_773 : decode b_La_law 773 = .ok (.iconst 1, 1) := by decide +kernel
theorem d_La_law_774 : decode b_La_law 774 = .ok (.iadd, 1) := by decide +kernel
theorem d_La_law_775 : decode b_La_law 775 = .ok (.iaload, 1) := by decide +kernel
theorem d_La_law_776 : decode b_La_law 776 = .ok (.invokevirtual 113, 3) := by decide +kernel
theorem d_La_law_779 : decode b_La_law 779 = .ok (.istore 6, 2) := by decide +kernel
theorem d_La_law_781 : decode b_La_law 781 = .ok (.aload_n 2, 1) := by decide +kernel
theorem d_La_law_782 : decode b_La_law 782 = .ok (.invokevirtual 64, 3) := by decide +kernel
theorem d_La_law_785 : decode b_La_law 785 = .ok (.iload 5, 2) := by decide +kernel
theorem d_La_law_787 : decode b_La_law 787 = .ok (.if_icmp .eq 5, 3) := by decide +kernel
theorem d_La_law_790 : decode b_La_law 790 = .ok (.iconst 0, 1) := by decide +kernel
theorem d_La_law_791 : decode b_La_law 791 = .ok (.ireturn, 1) := by decide +kernel
theorem d_La_law_792 : decode b_La_law 792 = .ok (.iload 5, 2) := by decide +kernel
theorem d_La_law_794 : decode b_La_law 794 = .ok (.ifCond .ne 15, 3) := by decide +kernel
theorem d_La_law_797 : decode b_La_law 797 = .ok (.aload_n 3, 1) := by decide +kernel
theorem d_La_law_798 : decode b_La_law 798 = .ok (.iconst 0, 1) := by decide +kernel
theorem d_La_law_799 : decode b_La_law 799 = .ok (.laload, 1) := by decide +kernel
theorem d_La_law_800 : decode b_La_law 800 = .ok (.iload 6, 2) := by decide +kernel
theorem d_La_law_802 : decode b_La_law 802 = .ok (.i2l, 1) := by decide +kernel
theorem d_La_law_803 : decode b_La_law 803 = .ok (.lcmp, 1) := by decide +kernel
theorem d_La_law_804 : decode b_La_law 804 = .ok (.ifCond .eq 5, 3) := by decide +kernel
theorem d_La_law_807 : decode b_La_law 807 = .ok (.iconst 0, 1) := by decide +kernel
theorem d_La_law_808 : decode b_La_law 808 = .ok (.ireturn, 1) := by decide +kernel
theorem d_La_law_809 : decode b_La_law 809 = .ok (.goto 3, 3) := by decide +kernel
theorem d_La_law_812 : decode b_La_law 812 = .ok (.iinc 4 4, 3) := by decide +kernel
theorem d_La_law_815 : decode b_La_law 815 = .ok (.goto (-792), 3) := by decide +kernel
theorem d_La_law_818 : decode b_La_law 818 = .ok (.iconst 1, 1) := by decide +kernel
theorem d_La_law_819 : decode b_La_law 819 = .ok (.ireturn, 1) := by decide +kernel
