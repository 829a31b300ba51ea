abbrev b_Mo_init : ByteArray := prog_8_method_1_code
def y_Mo_init : MethodName := ⟨RMo, "<init>", "()V"⟩
theorem k_Mo_init : Cond.code y_Mo_init b_Mo_init 1 none ∈ tt := (tt3 143 rfl rfl)
theorem i_Mo_init : Cond.instanceMethod y_Mo_init ∈ tt := (tt3 142 rfl rfl)
theorem d_Mo_init_0 : decode b_Mo_init 0 = .ok (.aload_n 0, 1) := by decide +kernel
theorem d_Mo_init_1 : decode b_Mo_init 1 = .ok (.invokespecial 1, 3) := by decide +kernel
theorem d_Mo_init_4 : decode b_Mo_init 4 = .ok (.aload_n 0, 1) := by decide +kernel
theorem d_Mo_init_5 : decode b_Mo_init 5 = .ok (.iconst 5, 1) := by decide +kernel
theorem d_Mo_init_6 : decode b_Mo_init 6 = .ok (.newarray .int, 2) := by decide +kernel
theorem d_Mo_init_8 : decode b_Mo_init 8 = .ok (.putfield 7, 3) := by decide +kernel
theorem d_Mo_init_11 : decode b_Mo_init 11 = .ok (.aload_n 0, 1) := by decide +kernel
theorem d_Mo_init_12 : decode b_Mo_init 12 = .ok (.iconst 5, 1) := by decide +kernel
theorem d_Mo_init_13 : decode b_Mo_init 13 = .ok (.newarray .int, 2) := by decide +kernel
theorem d_Mo_init_15 : decode b_Mo_init 15 = .ok (.putfield 13, 3) := by decide +kernel
theorem d_Mo_init_18 : decode b_Mo_init 18 = .ok (.aload_n 0, 1) := by decide +kernel
theorem d_Mo_init_19 : decode b_Mo_init 19 = .ok (.iconst 4, 1) := by decide +kernel
theorem d_Mo_init_20 : decode b_Mo_init 20 = .ok (.newarray .int, 2) := by decide +kernel
theorem d_Mo_init_22 : decode b_Mo_init 22 = .ok (.putfield 16, 3) := by decide +kernel
theorem d_Mo_init_25 : decode b_Mo_init 25 = .ok (.aload_n 0, 1) := by decide +kernel
theorem d_Mo_init_26 : decode b_Mo_init 26 = .ok (.iconst 4, 1) := by decide +kernel
theorem d_Mo_init_27 : decode b_Mo_init 27 = .ok (.newarray .int, 2) := by decide +kernel
theorem d_Mo_init_29 : decode b_Mo_init 29 = .ok (.putfield 19, 3) := by decide +kernel
theorem d_Mo_init_32 : decode b_Mo_init 32 = .ok (.aload_n 0, 1) := by decide +kernel
theorem d_Mo_init_33 : decode b_Mo_init 33 = .ok (.bipush 20, 2) := by decide +kernel
theorem d_Mo_init_35 : decode b_Mo_init 35 = .ok (.newarray .int, 2) := by decide +kernel
theorem d_Mo_init_37 : decode b_Mo_init 37 = .ok (.putfield 22, 3) := by decide +kernel
theorem d_Mo_init_40 : decode b_Mo_init 40 = .ok (.aload_n 0, 1) := by decide +kernel
theorem d_Mo_init_41 : decode b_Mo_init 41 = .ok (.iconst 4, 1) := by decide +kernel
theorem d_Mo_init_42 : decode b_Mo_init 42 = .ok (.newarray .int, 2) := by decide +kernel
theorem d_Mo_init_44 : decode b_Mo_init 44 = .ok (.putfield 25, 3) := by decide +kernel
theorem d_Mo_init_47 : decode b_Mo_init 47 = .ok (.aload_n 0, 1) := by decide +kernel
theorem d_Mo_init_48 : decode b_Mo_init 48 = .ok (.iconst 4, 1) := by decide +kernel
theorem d_Mo_init_49 : decode b_Mo_init 49 = .ok (.newarray .int, 2) := by decide +kernel
theorem d_Mo_init_51 : decode b_Mo_init 51 = .ok (.putfield 28, 3) := by decide +kernel
theorem d_Mo_init_54 : decode b_Mo_init 54 = .ok (.aload_n 0, 1) := by decide +kernel
theorem d_Mo_init_55 : decode b_Mo_init 55 = .ok (.bipush 8, 2) := by decide +kernel
theorem d_Mo_init_57 : decode b_Mo_init 57 = .ok (.newarray .int, 2) := by decide +kernel
theorem d_Mo_init_59 : decode b_Mo_init 59 = .ok (.putfield 31, 3) := by decide +kernel
theorem d_Mo_init_62 : decode b_Mo_init 62 = .ok (.aload_n 0, 1) := by decide +kernel
theorem d_Mo_init_63 : decode b_Mo_init 63 = .ok (.bipush 25, 2) := by decide +kernel
theorem d_Mo_init_65 : decode b_Mo_init 65 = .ok (.newarray .boolean, 2) := by decide +kernel
theorem d_Mo_init_67 : decode b_Mo_init 67 = .ok (.putfield 34, 3) := by decide +kernel
theorem d_Mo_init_70 : decode b_Mo_init 70 = .ok (.aload_n 0, 1) := by decide +kernel
theorem d_Mo_init_71 : decode b_Mo_init 71 = .ok (.iconst 5, 1) := by decide +kernel
theorem d_Mo_init_72 : decode b_Mo_init 72 = .ok (.newarray .int, 2) := by decide +kernel
theorem d_Mo_init_74 : decode b_Mo_init 74 = .ok (.putfield 38, 3) := by decide +kernel
theorem d_Mo_init_77 : decode b_Mo_init 77 = .ok (.aload_n 0, 1) := by decide +kernel
theorem d_Mo_init_78 : decode b_Mo_init 78 = .ok (.iconst 5, 1) := by decide +kernel
theorem d_Mo_init_79 : decode b_Mo_init 79 = .ok (.newarray .int, 2) := by decide +kernel
theorem d_Mo_init_81 : decode b_Mo_init 81 = .ok (.putfield 41, 3) := by decide +kernel
theorem d_Mo_init_84 : decode b_Mo_init 84 = .ok (.aload_n 0, 1) := by decide +kernel
theorem d_Mo_init_85 : decode b_Mo_init 85 = .ok (.iconst 5, 1) := by decide +kernel
theorem d_Mo_init_86 : decode b_Mo_init 86 = .ok (.newarray .int, 2) := by decide +kernel
theorem d_Mo_init_88 : decode b_Mo_init 88 = .ok (.putfield 44, 3) := by decide +kernel
theorem d_Mo_init_91 : decode b_Mo_init 91 = .ok (.aload_n 0, 1) := by decide +kernel
theorem d_Mo_init_92 : decode b_Mo_init 92 = .ok (.iconst 5, 1) := by decide +kernel
theorem d_Mo_init_93 : decode b_Mo_init 93 = .ok (.newarray .int, 2) := by decide +kernel
theorem d_Mo_init_95 : decode b_Mo_init 95 = .ok (.putfield 47, 3) := by decide +kernel
theorem d_Mo_init_98 : decode b_Mo_init 98 = .ok (.aload_n 0, 1) := by decide +kernel
theorem d_Mo_init_99 : decode b_Mo_init 99 = .ok (.iconst 5, 1) := by decide +kernel
theorem d_Mo_init_100 : decode b_Mo_init 100 = .ok (.newarray .int, 2) := by decide +kernel
theorem d_Mo_init_102 : decode b_Mo_init 102 = .ok (.putfield 50, 3) := by decide +kernel
theorem d_Mo_init_105 : decode b_Mo_init 105 = .ok (.return_, 1) := by decide +kernel
abbrev b_Mo_thrown : ByteArray := prog_8_method_2_code
def y_Mo_thrown : MethodName := ⟨RMo, "thrown", "()I"⟩
theorem k_Mo_thrown : Cond.code y_Mo_thrown b_Mo_thrown 1 (some .int) ∈ tt := (tt3 222 rfl rfl)
theorem i_Mo_thrown : Cond.instanceMethod y_Mo_thrown ∈ tt := (tt3 220 rfl rfl)
theorem l_Mo_thrown : Cond.selects RMo y_Mo_thrown y_Mo_thrown ∈ tt := (tt3 221 rfl rfl)
theorem d_Mo_thrown_0 : decode b_Mo_thrown 0 = .ok (.aload_n 0, 1) := by decide +kernel
theorem d_Mo_thrown_1 : decode b_Mo_thrown 1 = .ok (.getfield 53, 3) := by decide +kernel
theorem d_Mo_thrown_4 : decode b_Mo_thrown 4 = .ok (.ireturn, 1) := by decide +kernel
abbrev b_Mo_in : ByteArray := prog_8_method_3_code
def y_Mo_in : MethodName := ⟨RMo, "in", "(III)Z"⟩
theorem k_Mo_in : Cond.code y_Mo_in b_Mo_in 3 (some .boolean) ∈ tt := (tt3 229 rfl rfl)
theorem s_Mo_in : Cond.static y_Mo_in ∈ tt := (tt3 228 rfl rfl)
theorem d_Mo_in_0 : decode b_Mo_in 0 = .ok (.iload_n 0, 1) := by decide +kernel
theorem d_Mo_in_1 : decode b_Mo_in 1 = .ok (.iload_n 1, 1) := by decide +kernel
theorem d_Mo_in_2 : decode b_Mo_in 2 = .ok (.if_icmp .lt 12, 3) := by decide +kernel
theorem d_Mo_in_5 : decode b_Mo_in 5 = .ok (.iload_n 0, 1) := by decide +kernel
theorem d_Mo_in_6 : decode b_Mo_in 6 = .ok (.iload_n 2, 1) := by decide +kernel
theorem d_Mo_in_7 : decode b_Mo_in 7 = .ok (.if_icmp .gt 7, 3) := by decide +kernel
theorem d_Mo_in_10 : decode b_Mo_in 10 = .ok (.iconst 1, 1) := by decide +kernel
theorem d_Mo_in_11 : decode b_Mo_in 11 = .ok (.goto 4, 3) := by decide +kernel
theorem d_Mo_in_14 : decode b_Mo_in 14 = .ok (.iconst 0, 1) := by decide +kernel
theorem d_Mo_in_15 : decode b_Mo_in 15 = .ok (.ireturn, 1) := by decide +kernel
abbrev b_Mo_goes : ByteArray := prog_8_method_4_code
def y_Mo_goes : MethodName := ⟨RMo, "goes", "(ZZ)Z"⟩
theorem k_Mo_goes : Cond.code y_Mo_goes b_Mo_goes 3 (some .boolean) ∈ tt := (tt3 233 rfl rfl)
theorem i_Mo_goes : Cond.instanceMethod y_Mo_goes ∈ tt := (tt3 232 rfl rfl)
theorem l_Mo_goes : Cond.selects RMo y_Mo_goes y_Mo_goes ∈ tt := (tt0 12 rfl rfl)
theorem d_Mo_goes_0 : decode b_Mo_goes 0 = .ok (.aload_n 0, 1) := by decide +kernel
theorem d_Mo_goes_1 : decode b_Mo_goes 1 = .ok (.iload_n 1, 1) := by decide +kernel
theorem d_Mo_goes_2 : decode b_Mo_goes 2 = .ok (.ifCond .ne 7, 3) := by decide +kernel
theorem d_Mo_goes_5 : decode b_Mo_goes 5 = .ok (.iconst 1, 1) := by decide +kernel
theorem d_Mo_goes_6 : decode b_Mo_goes 6 = .ok (.goto 12, 3) := by decide +kernel
theorem d_Mo_goes_9 : decode b_Mo_goes 9 = .ok (.iload_n 2, 1) := by decide +kernel
theorem d_Mo_goes_10 : decode b_Mo_goes 10 = .ok (.ifCond .ne 7, 3) := by decide +kernel
theorem d_Mo_goes_13 : decode b_Mo_goes 13 = .ok (.iconst 2, 1) := by decide +kernel
theorem d_Mo_goes_14 : decode b_Mo_goes 14 = .ok (.goto 4, 3) := by decide +kernel
theorem d_Mo_goes_17 : decode b_Mo_goes 17 = .ok (.iconst 0, 1) := by decide +kernel
theorem d_Mo_goes_18 : decode b_Mo_goes 18 = .ok (.putfield 53, 3) := by decide +kernel
theorem d_Mo_goes_21 : decode b_Mo_goes 21 = .ok (.aload_n 0, 1) := by decide +kernel
theorem d_Mo_goes_22 : decode b_Mo_goes 22 = .ok (.getfield 53, 3) := by decide +kernel
theorem d_Mo_goes_25 : decode b_Mo_goes 25 = .ok (.ifCond .ne 7, 3) := by decide +kernel
theorem d_Mo_goes_28 : decode b_Mo_goes 28 = .ok (.iconst 1, 1) := by decide +kernel
theorem d_Mo_goes_29 : decode b_Mo_goes 29 = .ok (.goto 4, 3) := by decide +kernel
theorem d_Mo_goes_32 : decode b_Mo_goes 32 = .ok (.iconst 0, 1) := by decide +kernel
theorem d_Mo_goes_33 : decode b_Mo_goes 33 = .ok (.ireturn, 1) := by decide +kernel
abbrev b_Mo_isColumn : ByteArray := prog_8_method_5_code
def y_Mo_isColumn : MethodName := ⟨RMo, "isColumn", "(I)Z"⟩
theorem k_Mo_isColumn : Cond.code y_Mo_isColumn b_Mo_isColumn 2 (some .boolean) ∈ tt := (tt4 17 rfl rfl)
theorem i_Mo_isColumn : Cond.instanceMethod y_Mo_isColumn ∈ tt := (tt4 16 rfl rfl)
theorem l_Mo_isColumn : Cond.selects RMo y_Mo_isColumn y_Mo_isColumn ∈ tt := (tt0 16 rfl rfl)
theorem d_Mo_isColumn_0 : decode b_Mo_isColumn 0 = .ok (.iload_n 1, 1) := by decide +kernel
theorem d_Mo_isColumn_1 : decode b_Mo_isColumn 1 = .ok (.iconst 0, 1) := by decide +kernel
theorem d_Mo_isColumn_2 : decode b_Mo_isColumn 2 = .ok (.aload_n 0, 1) := by decide +kernel
theorem d_Mo_isColumn_3 : decode b_Mo_isColumn 3 = .ok (.getfield 57, 3) := by decide +kernel
theorem d_Mo_isColumn_6 : decode b_Mo_isColumn 6 = .ok (.iconst 1, 1) := by decide +kernel
theorem d_Mo_isColumn_7 : decode b_Mo_isColumn 7 = .ok (.isub, 1) := by decide +kernel
theorem d_Mo_isColumn_8 : decode b_Mo_isColumn 8 = .ok (.invokestatic 60, 3) := by decide +kernel
theorem d_Mo_isColumn_11 : decode b_Mo_isColumn 11 = .ok (.ireturn, 1) := by decide +kernel
abbrev b_Mo_isRow : ByteArray := prog_8_method_6_code
def y_Mo_isRow : MethodName := ⟨RMo, "isRow", "(I)Z"⟩
theorem k_Mo_isRow : Cond.code y_Mo_isRow b_Mo_isRow 2 (some .boolean) ∈ tt := (tt4 13 rfl rfl)
theorem i_Mo_isRow : Cond.instanceMethod y_Mo_isRow ∈ tt := (tt4 12 rfl rfl)
theorem l_Mo_isRow : Cond.selects RMo y_Mo_isRow y_Mo_isRow ∈ tt := (tt0 15 rfl rfl)
theorem d_Mo_isRow_0 : decode b_Mo_isRow 0 = .ok (.iload_n 1, 1) := by decide +kernel
theorem d_Mo_isRow_1 : decode b_Mo_isRow 1 = .ok (.iconst 0, 1) := by decide +kernel
theorem d_Mo_isRow_2 : decode b_Mo_isRow 2 = .ok (.aload_n 0, 1) := by decide +kernel
theorem d_Mo_isRow_3 : decode b_Mo_isRow 3 = .ok (.getfield 64, 3) := by decide +kernel
theorem d_Mo_isRow_6 : decode b_Mo_isRow 6 = .ok (.iconst 1, 1) := by decide +kernel
theorem d_Mo_isRow_7 : decode b_Mo_isRow 7 = .ok (.isub, 1) := by decide +kernel
theorem d_Mo_isRow_8 : decode b_Mo_isRow 8 = .ok (.invokestatic 60, 3) := by decide +kernel
theorem d_Mo_isRow_11 : decode b_Mo_isRow 11 = .ok (.ireturn, 1) := by decide +kernel
abbrev b_Mo_anew : ByteArray := prog_8_method_7_code
def y_Mo_anew : MethodName := ⟨RMo, "anew", "()V"⟩
theorem k_Mo_anew : Cond.code y_Mo_anew b_Mo_anew 1 none ∈ tt := (tt3 237 rfl rfl)
theorem i_Mo_anew : Cond.instanceMethod y_Mo_anew ∈ tt := (tt3 236 rfl rfl)
theorem l_Mo_anew : Cond.selects RMo y_Mo_anew y_Mo_anew ∈ tt := (tt0 13 rfl rfl)
theorem d_Mo_anew_0 : decode b_Mo_anew 0 = .ok (.aload_n 0, 1) := by decide +kernel
theorem d_Mo_anew_1 : decode b_Mo_anew 1 = .ok (.iconst 0, 1) := by decide +kernel
theorem d_Mo_anew_2 : decode b_Mo_anew 2 = .ok (.putfield 67, 3) := by decide +kernel
theorem d_Mo_anew_5 : decode b_Mo_anew 5 = .ok (.aload_n 0, 1) := by decide +kernel
theorem d_Mo_anew_6 : decode b_Mo_anew 6 = .ok (.getfield 38, 3) := by decide +kernel
theorem d_Mo_anew_9 : decode b_Mo_anew 9 = .ok (.iconst 0, 1) := by decide +kernel
theorem d_Mo_anew_10 : decode b_Mo_anew 10 = .ok (.aload_n 0, 1) := by decide +kernel
theorem d_Mo_anew_11 : decode b_Mo_anew 11 = .ok (.getfield 13, 3) := by decide +kernel
theorem d_Mo_anew_14 : decode b_Mo_anew 14 = .ok (.iconst 0, 1) := by decide +kernel
theorem d_Mo_anew_15 : decode b_Mo_anew 15 = .ok (.iaload, 1) := by decide +kernel
theorem d_Mo_anew_16 : decode b_Mo_anew 16 = .ok (.iastore, 1) := by decide +kernel
theorem d_Mo_anew_17 : decode b_Mo_anew 17 = .ok (.aload_n 0, 1) := by decide +kernel
theorem d_Mo_anew_18 : decode b_Mo_anew 18 = .ok (.iconst 0, 1) := by decide +kernel
theorem d_Mo_anew_19 : decode b_Mo_anew 19 = .ok (.putfield 70, 3) := by decide +kernel
theorem d_Mo_anew_22 : decode b_Mo_anew 22 = .ok (.aload_n 0, 1) := by decide +kernel
theorem d_Mo_anew_23 : decode b_Mo_anew 23 = .ok (.iconst 0, 1) := by decide +kernel
theorem d_Mo_anew_24 : decode b_Mo_anew 24 = .ok (.putfield 74, 3) := by decide +kernel
theorem d_Mo_anew_27 : decode b_Mo_anew 27 = .ok (.aload_n 0, 1) := by decide +kernel
theorem d_Mo_anew_28 : decode b_Mo_anew 28 = .ok (.iconst 0, 1) := by decide +kernel
theorem d_Mo_anew_29 : decode b_Mo_anew 29 = .ok (.putfield 77, 3) := by decide +kernel
theorem d_Mo_anew_32 : decode b_Mo_anew 32 = .ok (.return_, 1) := by decide +kernel
abbrev b_Mo_noMultipliers : ByteArray := prog_8_method_8_code
def y_Mo_noMultipliers : MethodName := ⟨RMo, "noMultipliers", "()V"⟩
theorem k_Mo_noMultipliers : Cond.code y_Mo_noMultipliers b_Mo_noMultipliers 2 none ∈ tt := (tt4 5 rfl rfl)
theorem i_Mo_noMultipliers : Cond.instanceMethod y_Mo_noMultipliers ∈ tt := (tt4 4 rfl rfl)
theorem l_Mo_noMultipliers : Cond.selects RMo y_Mo_noMultipliers y_Mo_noMultipliers ∈ tt := (tt0 14 rfl rfl)
theorem d_Mo_noMultipliers_0 : decode b_Mo_noMultipliers 0 = .ok (.iconst 0, 1) := by decide +kernel
theorem d_Mo_noMultipliers_1 : decode b_Mo_noMultipliers 1 = .ok (.istore_n 1, 1) := by decide +kernel
theorem d_Mo_noMultipliers_2 : decode b_Mo_noMultipliers 2 = .ok (.iload_n 1, 1) := by decide +kernel
theorem d_Mo_noMultipliers_3 : decode b_Mo_noMultipliers 3 = .ok (.bipush 8, 2) := by decide +kernel
theorem d_Mo_noMultipliers_5 : decode b_Mo_noMultipliers 5 = .ok (.if_icmp .ge 16, 3) := by decide +kernel
theorem d_Mo_noMultipliers_8 : decode b_Mo_noMultipliers 8 = .ok (.aload_n 0, 1) := by decide +kernel
theorem d_Mo_noMultipliers_9 : decode b_Mo_noMultipliers 9 = .ok (.getfield 31, 3) := by decide +kernel
theorem d_Mo_noMultipliers_12 : decode b_Mo_noMultipliers 12 = .ok (.iload_n 1, 1) := by decide +kernel
theorem d_Mo_noMultipliers_13 : decode b_Mo_noMultipliers 13 = .ok (.iconst 0, 1) := by decide +kernel
theorem d_Mo_noMultipliers_14 : decode b_Mo_noMultipliers 14 = .ok (.iastore, 1) := by decide +kernel
theorem d_Mo_noMultipliers_15 : decode b_Mo_noMultipliers 15 = .ok (.iinc 1 1, 3) := by decide +kernel
theorem d_Mo_noMultipliers_18 : decode b_Mo_noMultipliers 18 = .ok (.goto (-16), 3) := by decide +kernel
theorem d_Mo_noMultipliers_21 : decode b_Mo_noMultipliers 21 = .ok (.return_, 1) := by decide +kernel
abbrev b_Mo_column : ByteArray := prog_8_method_9_code
def y_Mo_column : MethodName := ⟨RMo, "column", "(II)I"⟩
theorem k_Mo_column : Cond.code y_Mo_column b_Mo_column 3 (some .int) ∈ tt := (tt3 226 rfl rfl)
theorem i_Mo_column : Cond.instanceMethod y_Mo_column ∈ tt := (tt3 224 rfl rfl)
theorem l_Mo_column : Cond.selects RMo y_Mo_column y_Mo_column ∈ tt := (tt3 225 rfl rfl)
theorem d_Mo_column_0 : decode b_Mo_column 0 = .ok (.aload_n 0, 1) := by decide +kernel
theorem d_Mo_column_1 : decode b_Mo_column 1 = .ok (.iload_n 1, 1) := by decide +kernel
theorem d_Mo_column_2 : decode b_Mo_column 2 = .ok (.sipush (-1000), 3) := by decide +kernel
theorem d_Mo_column_5 : decode b_Mo_column 5 = .ok (.sipush 1000, 3) := by decide +kernel
theorem d_Mo_column_8 : decode b_Mo_column 8 = .ok (.invokestatic 60, 3) := by decide +kernel
theorem d_Mo_column_11 : decode b_Mo_column 11 = .ok (.ifCond .eq 17, 3) := by decide +kernel
theorem d_Mo_column_14 : decode b_Mo_column 14 = .ok (.iload_n 2, 1) := by decide +kernel
theorem d_Mo_column_15 : decode b_Mo_column 15 = .ok (.iconst 0, 1) := by decide +kernel
theorem d_Mo_column_16 : decode b_Mo_column 16 = .ok (.bipush 20, 2) := by decide +kernel
theorem d_Mo_column_18 : decode b_Mo_column 18 = .ok (.invokestatic 60, 3) := by decide +kernel
theorem d_Mo_column_21 : decode b_Mo_column 21 = .ok (.ifCond .eq 7, 3) := by decide +kernel
theorem d_Mo_column_24 : decode b_Mo_column 24 = .ok (.iconst 1, 1) := by decide +kernel
theorem d_Mo_column_25 : decode b_Mo_column 25 = .ok (.goto 4, 3) := by decide +kernel
theorem d_Mo_column_28 : decode b_Mo_column 28 = .ok (.iconst 0, 1) := by decide +kernel
theorem d_Mo_column_29 : decode b_Mo_column 29 = .ok (.aload_n 0, 1) := by decide +kernel
theorem d_Mo_column_30 : decode b_Mo_column 30 = .ok (.getfield 57, 3) := by decide +kernel
theorem d_Mo_column_33 : decode b_Mo_column 33 = .ok (.iconst 5, 1) := by decide +kernel
theorem d_Mo_column_34 : decode b_Mo_column 34 = .ok (.if_icmp .ge 7, 3) := by decide +kernel
theorem d_Mo_column_37 : decode b_Mo_column 37 = .ok (.iconst 1, 1) := by decide +kernel
theorem d_Mo_column_38 : decode b_Mo_column 38 = .ok (.goto 4, 3) := by decide +kernel
theorem d_Mo_column_41 : decode b_Mo_column 41 = .ok (.iconst 0, 1) := by decide +kernel
theorem d_Mo_column_42 : decode b_Mo_column 42 = .ok (.invokevirtual 80, 3) := by decide +kernel
theorem d_Mo_column_45 : decode b_Mo_column 45 = .ok (.ifCond .ne 5, 3) := by decide +kernel
theorem d_Mo_column_48 : decode b_Mo_column 48 = .ok (.iconst 0, 1) := by decide +kernel
theorem d_Mo_column_49 : decode b_Mo_column 49 = .ok (.ireturn, 1) := by decide +kernel
theorem d_Mo_column_50 : decode b_Mo_column 50 = .ok (.aload_n 0, 1) := by decide +kernel
theorem d_Mo_column_51 : decode b_Mo_column 51 = .ok (.getfield 7, 3) := by decide +kernel
theorem d_Mo_column_54 : decode b_Mo_column 54 = .ok (.aload_n 0, 1) := by decide +kernel
theorem d_Mo_column_55 : decode b_Mo_column 55 = .ok (.getfield 57, 3) := by decide +kernel
theorem d_Mo_column_58 : decode b_Mo_column 58 = .ok (.iload_n 1, 1) := by decide +kernel
theorem d_Mo_column_59 : decode b_Mo_column 59 = .ok (.iastore, 1) := by decide +kernel
theorem d_Mo_column_60 : decode b_Mo_column 60 = .ok (.aload_n 0, 1) := by decide +kernel
theorem d_Mo_column_61 : decode b_Mo_column 61 = .ok (.getfield 13, 3) := by decide +kernel
theorem d_Mo_column_64 : decode b_Mo_column 64 = .ok (.aload_n 0, 1) := by decide +kernel
theorem d_Mo_column_65 : decode b_Mo_column 65 = .ok (.getfield 57, 3) := by decide +kernel
theorem d_Mo_column_68 : decode b_Mo_column 68 = .ok (.iload_n 2, 1) := by decide +kernel
theorem d_Mo_column_69 : decode b_Mo_column 69 = .ok (.iastore, 1) := by decide +kernel
theorem d_Mo_column_70 : decode b_Mo_column 70 = .ok (.aload_n 0, 1) := by decide +kernel
theorem d_Mo_column_71 : decode b_Mo_column 71 = .ok (.dup, 1) := by decide +kernel
theorem d_Mo_column_72 : decode b_Mo_column 72 = .ok (.getfield 57, 3) := by decide +kernel
theorem d_Mo_column_75 : decode b_Mo_column 75 = .ok (.iconst 1, 1) := by decide +kernel
theorem d_Mo_column_76 : decode b_Mo_column 76 = .ok (.iadd, 1) := by decide +kernel
theorem d_Mo_column_77 : decode b_Mo_column 77 = .ok (.putfield 57, 3) := by decide +kernel
theorem d_Mo_column_80 : decode b_Mo_column 80 = .ok (.aload_n 0, 1) := by decide +kernel
theorem d_Mo_column_81 : decode b_Mo_column 81 = .ok (.invokevirtual 84, 3) := by decide +kernel
theorem d_Mo_column_84 : decode b_Mo_column 84 = .ok (.aload_n 0, 1) := by decide +kernel
theorem d_Mo_column_85 : decode b_Mo_column 85 = .ok (.getfield 57, 3) := by decide +kernel
theorem d_Mo_column_88 : decode b_Mo_column 88 = .ok (.iconst 1, 1) := by decide +kernel
theorem d_Mo_column_89 : decode b_Mo_column 89 = .ok (.isub, 1) := by decide +kernel
theorem d_Mo_column_90 : decode b_Mo_column 90 = .ok (.ireturn, 1) := by decide +kernel
abbrev b_Mo_row : ByteArray := prog_8_method_10_code
def y_Mo_row : MethodName := ⟨RMo, "row", "(II)I"⟩
theorem k_Mo_row : Cond.code y_Mo_row b_Mo_row 3 (some .int) ∈ tt := (tt4 1 rfl rfl)
theorem i_Mo_row : Cond.instanceMethod y_Mo_row ∈ tt := (tt3 239 rfl rfl)
theorem l_Mo_row : Cond.selects RMo y_Mo_row y_Mo_row ∈ tt := (tt4 0 rfl rfl)
theorem d_Mo_row_0 : decode b_Mo_row 0 = .ok (.aload_n 0, 1) := by decide +kernel
theorem d_Mo_row_1 : decode b_Mo_row 1 = .ok (.iload_n 1, 1) := by decide +kernel
theorem d_Mo_row_2 : decode b_Mo_row 2 = .ok (.iconst 0, 1) := by decide +kernel
theorem d_Mo_row_3 : decode b_Mo_row 3 = .ok (.iconst 1, 1) := by decide +kernel
theorem d_Mo_row_4 : decode b_Mo_row 4 = .ok (.invokestatic 60, 3) := by decide +kernel
theorem d_Mo_row_7 : decode b_Mo_row 7 = .ok (.ifCond .eq 20, 3) := by decide +kernel
theorem d_Mo_row_10 : decode b_Mo_row 10 = .ok (.iload_n 2, 1) := by decide +kernel
theorem d_Mo_row_11 : decode b_Mo_row 11 = .ok (.sipush (-10000), 3) := by decide +kernel
theorem d_Mo_row_14 : decode b_Mo_row 14 = .ok (.sipush 10000, 3) := by decide +kernel
theorem d_Mo_row_17 : decode b_Mo_row 17 = .ok (.invokestatic 60, 3) := by decide +kernel
theorem d_Mo_row_20 : decode b_Mo_row 20 = .ok (.ifCond .eq 7, 3) := by decide +kernel
theorem d_Mo_row_23 : decode b_Mo_row 23 = .ok (.iconst 1, 1) := by decide +kernel
theorem d_Mo_row_24 : decode b_Mo_row 24 = .ok (.goto 4, 3) := by decide +kernel
theorem d_Mo_row_27 : decode b_Mo_row 27 = .ok (.iconst 0, 1) := by decide +kernel
theorem d_Mo_row_28 : decode b_Mo_row 28 = .ok (.aload_n 0, 1) := by decide +kernel
theorem d_Mo_row_29 : decode b_Mo_row 29 = .ok (.getfield 64, 3) := by decide +kernel
theorem d_Mo_row_32 : decode b_Mo_row 32 = .ok (.iconst 4, 1) := by decide +kernel
theorem d_Mo_row_33 : decode b_Mo_row 33 = .ok (.if_icmp .ge 7, 3) := by decide +kernel
theorem d_Mo_row_36 : decode b_Mo_row 36 = .ok (.iconst 1, 1) := by decide +kernel
theorem d_Mo_row_37 : decode b_Mo_row 37 = .ok (.goto 4, 3) := by decide +kernel
theorem d_Mo_row_40 : decode b_Mo_row 40 = .ok (.iconst 0, 1) := by decide +kernel
theorem d_Mo_row_41 : decode b_Mo_row 41 = .ok (.invokevirtual 80, 3) := by decide +kernel
theorem d_Mo_row_44 : decode b_Mo_row 44 = .ok (.ifCond .ne 5, 3) := by decide +kernel
theorem d_Mo_row_47 : decode b_Mo_row 47 = .ok (.iconst 0, 1) := by decide +kernel
theorem d_Mo_row_48 : decode b_Mo_row 48 = .ok (.ireturn, 1) := by decide +kernel
theorem d_Mo_row_49 : decode b_Mo_row 49 = .ok (.aload_n 0, 1) := by decide +kernel
theorem d_Mo_row_50 : decode b_Mo_row 50 = .ok (.getfield 16, 3) := by decide +kernel
theorem d_Mo_row_53 : decode b_Mo_row 53 = .ok (.aload_n 0, 1) := by decide +kernel
theorem d_Mo_row_54 : decode b_Mo_row 54 = .ok (.getfield 64, 3) := by decide +kernel
theorem d_Mo_row_57 : decode b_Mo_row 57 = .ok (.iload_n 1, 1) := by decide +kernel
theorem d_Mo_row_58 : decode b_Mo_row 58 = .ok (.iastore, 1) := by decide +kernel
theorem d_Mo_row_59 : decode b_Mo_row 59 = .ok (.aload_n 0, 1) := by decide +kernel
theorem d_Mo_row_60 : decode b_Mo_row 60 = .ok (.getfield 19, 3) := by decide +kernel
theorem d_Mo_row_63 : decode b_Mo_row 63 = .ok (.aload_n 0, 1) := by decide +kernel
theorem d_Mo_row_64 : decode b_Mo_row 64 = .ok (.getfield 64, 3) := by decide +kernel
theorem d_Mo_row_67 : decode b_Mo_row 67 = .ok (.iload_n 2, 1) := by decide +kernel
theorem d_Mo_row_68 : decode b_Mo_row 68 = .ok (.iastore, 1) := by decide +kernel
theorem d_Mo_row_69 : decode b_Mo_row 69 = .ok (.aload_n 0, 1) := by decide +kernel
theorem d_Mo_row_70 : decode b_Mo_row 70 = .ok (.dup, 1) := by decide +kernel
theorem d_Mo_row_71 : decode b_Mo_row 71 = .ok (.getfield 64, 3) := by decide +kernel
theorem d_Mo_row_74 : decode b_Mo_row 74 = .ok (.iconst 1, 1) := by decide +kernel
theorem d_Mo_row_75 : decode b_Mo_row 75 = .ok (.iadd, 1) := by decide +kernel
theorem d_Mo_row_76 : decode b_Mo_row 76 = .ok (.putfield 64, 3) := by decide +kernel
theorem d_Mo_row_79 : decode b_Mo_row 79 = .ok (.aload_n 0, 1) := by decide +kernel
theorem d_Mo_row_80 : decode b_Mo_row 80 = .ok (.invokevirtual 87, 3) := by decide +kernel
theorem d_Mo_row_83 : decode b_Mo_row 83 = .ok (.aload_n 0, 1) := by decide +kernel
theorem d_Mo_row_84 : decode b_Mo_row 84 = .ok (.invokevirtual 84, 3) := by decide +kernel
theorem d_Mo_row_87 : decode b_Mo_row 87 = .ok (.aload_n 0, 1) := by decide +kernel
theorem d_Mo_row_88 : decode b_Mo_row 88 = .ok (.getfield 64, 3) := by decide +kernel
theorem d_Mo_row_91 : decode b_Mo_row 91 = .ok (.iconst 1, 1) := by decide +kernel
theorem d_Mo_row_92 : decode b_Mo_row 92 = .ok (.isub, 1) := by decide +kernel
theorem d_Mo_row_93 : decode b_Mo_row 93 = .ok (.ireturn, 1) := by decide +kernel
abbrev b_Mo_factor : ByteArray := prog_8_method_11_code
def y_Mo_factor : MethodName := ⟨RMo, "factor", "(III)V"⟩
theorem k_Mo_factor : Cond.code y_Mo_factor b_Mo_factor 4 none ∈ tt := (tt4 9 rfl rfl)
theorem i_Mo_factor : Cond.instanceMethod y_Mo_factor ∈ tt := (tt4 7 rfl rfl)
theorem l_Mo_factor : Cond.selects RMo y_Mo_factor y_Mo_factor ∈ tt := (tt4 8 rfl rfl)
theorem d_Mo_factor_0 : decode b_Mo_factor 0 = .ok (.aload_n 0, 1) := by decide +kernel
theorem d_Mo_factor_1 : decode b_Mo_factor 1 = .ok (.aload_n 0, 1) := by decide +kernel
theorem d_Mo_factor_2 : decode b_Mo_factor 2 = .ok (.iload_n 1, 1) := by decide +kernel
theorem d_Mo_factor_3 : decode b_Mo_factor 3 = .ok (.invokevirtual 90, 3) := by decide +kernel
theorem d_Mo_factor_6 : decode b_Mo_factor 6 = .ok (.ifCond .eq 15, 3) := by decide +kernel
theorem d_Mo_factor_9 : decode b_Mo_factor 9 = .ok (.aload_n 0, 1) := by decide +kernel
theorem d_Mo_factor_10 : decode b_Mo_factor 10 = .ok (.iload_n 2, 1) := by decide +kernel
theorem d_Mo_factor_11 : decode b_Mo_factor 11 = .ok (.invokevirtual 94, 3) := by decide +kernel
theorem d_Mo_factor_14 : decode b_Mo_factor 14 = .ok (.ifCond .eq 7, 3) := by decide +kernel
theorem d_Mo_factor_17 : decode b_Mo_factor 17 = .ok (.iconst 1, 1) := by decide +kernel
theorem d_Mo_factor_18 : decode b_Mo_factor 18 = .ok (.goto 4, 3) := by decide +kernel
theorem d_Mo_factor_21 : decode b_Mo_factor 21 = .ok (.iconst 0, 1) := by decide +kernel
theorem d_Mo_factor_22 : decode b_Mo_factor 22 = .ok (.iload_n 3, 1) := by decide +kernel
theorem d_Mo_factor_23 : decode b_Mo_factor 23 = .ok (.bipush (-10), 2) := by decide +kernel
theorem d_Mo_factor_25 : decode b_Mo_factor 25 = .ok (.bipush 10, 2) := by decide +kernel
theorem d_Mo_factor_27 : decode b_Mo_factor 27 = .ok (.invokestatic 60, 3) := by decide +kernel
theorem d_Mo_factor_30 : decode b_Mo_factor 30 = .ok (.invokevirtual 80, 3) := by decide +kernel
theorem d_Mo_factor_33 : decode b_Mo_factor 33 = .ok (.ifCond .ne 4, 3) := by decide +kernel
theorem d_Mo_factor_36 : decode b_Mo_factor 36 = .ok (.return_, 1) := by decide +kernel
theorem d_Mo_factor_37 : decode b_Mo_factor 37 = .ok (.aload_n 0, 1) := by decide +kernel
theorem d_Mo_factor_38 : decode b_Mo_factor 38 = .ok (.getfield 22, 3) := by decide +kernel
theorem d_Mo_factor_41 : decode b_Mo_factor 41 = .ok (.iconst 5, 1) := by decide +kernel
theorem d_Mo_factor_42 : decode b_Mo_factor 42 = .ok (.iload_n 1, 1) := by decide +kernel
theorem d_Mo_factor_43 : decode b_Mo_factor 43 = .ok (.imul, 1) := by decide +kernel
theorem d_Mo_factor_44 : decode b_Mo_factor 44 = .ok (.iload_n 2, 1) := by decide +kernel
theorem d_Mo_factor_45 : decode b_Mo_factor 45 = .ok (.iadd, 1) := by decide +kernel
theorem d_Mo_factor_46 : decode b_Mo_factor 46 = .ok (.iload_n 3, 1) := by decide +kernel
theorem d_Mo_factor_47 : decode b_Mo_factor 47 = .ok (.iastore, 1) := by decide +kernel
theorem d_Mo_factor_48 : decode b_Mo_factor 48 = .ok (.aload_n 0, 1) := by decide +kernel
theorem d_Mo_factor_49 : decode b_Mo_factor 49 = .ok (.invokevirtual 84, 3) := by decide +kernel
theorem d_Mo_factor_52 : decode b_Mo_factor 52 = .ok (.return_, 1) := by decide +kernel
abbrev b_Mo_right : ByteArray := prog_8_method_12_code
def y_Mo_right : MethodName := ⟨RMo, "right", "(II)V"⟩
theorem k_Mo_right : Cond.code y_Mo_right b_Mo_right 3 none ∈ tt := (tt4 21 rfl rfl)
theorem i_Mo_right : Cond.instanceMethod y_Mo_right ∈ tt := (tt4 19 rfl rfl)
theorem l_Mo_right : Cond.selects RMo y_Mo_right y_Mo_right ∈ tt := (tt4 20 rfl rfl)
theorem d_Mo_right_0 : decode b_Mo_right 0 = .ok (.aload_n 0, 1) := by decide +kernel
theorem d_Mo_right_1 : decode b_Mo_right 1 = .ok (.aload_n 0, 1) := by decide +kernel
theorem d_Mo_right_2 : decode b_Mo_right 2 = .ok (.iload_n 1, 1) := by decide +kernel
theorem d_Mo_right_3 : decode b_Mo_right 3 = .ok (.invokevirtual 90, 3) := by decide +kernel
theorem d_Mo_right_6 : decode b_Mo_right 6 = .ok (.iload_n 2, 1) := by decide +kernel
theorem d_Mo_right_7 : decode b_Mo_right 7 = .ok (.sipush (-10000), 3) := by decide +kernel
theorem d_Mo_right_10 : decode b_Mo_right 10 = .ok (.sipush 10000, 3) := by decide +kernel
theorem d_Mo_right_13 : decode b_Mo_right 13 = .ok (.invokestatic 60, 3) := by decide +kernel
theorem d_Mo_right_16 : decode b_Mo_right 16 = .ok (.invokevirtual 80, 3) := by decide +kernel
theorem d_Mo_right_19 : decode b_Mo_right 19 = .ok (.ifCond .ne 4, 3) := by decide +kernel
theorem d_Mo_right_22 : decode b_Mo_right 22 = .ok (.return_, 1) := by decide +kernel
theorem d_Mo_right_23 : decode b_Mo_right 23 = .ok (.aload_n 0, 1) := by decide +kernel
theorem d_Mo_right_24 : decode b_Mo_right 24 = .ok (.getfield 19, 3) := by decide +kernel
theorem d_Mo_right_27 : decode b_Mo_right 27 = .ok (.iload_n 1, 1) := by decide +kernel
theorem d_Mo_right_28 : decode b_Mo_right 28 = .ok (.iload_n 2, 1) := by decide +kernel
theorem d_Mo_right_29 : decode b_Mo_right 29 = .ok (.iastore, 1) := by decide +kernel
theorem d_Mo_right_30 : decode b_Mo_right 30 = .ok (.aload_n 0, 1) := by decide +kernel
theorem d_Mo_right_31 : decode b_Mo_right 31 = .ok (.invokevirtual 84, 3) := by decide +kernel
theorem d_Mo_right_34 : decode b_Mo_right 34 = .ok (.return_, 1) := by decide +kernel
abbrev b_Mo_cut : ByteArray := prog_8_method_13_code
def y_Mo_cut : MethodName := ⟨RMo, "cut", "(II)I"⟩
theorem k_Mo_cut : Cond.code y_Mo_cut b_Mo_cut 5 (some .int) ∈ tt := (tt4 25 rfl rfl)
theorem i_Mo_cut : Cond.instanceMethod y_Mo_cut ∈ tt := (tt4 23 rfl rfl)
theorem l_Mo_cut : Cond.selects RMo y_Mo_cut y_Mo_cut ∈ tt := (tt4 24 rfl rfl)
theorem d_Mo_cut_0 : decode b_Mo_cut 0 = .ok (.aload_n 0, 1) := by decide +kernel
theorem d_Mo_cut_1 : decode b_Mo_cut 1 = .ok (.getfield 97, 3) := by decide +kernel
theorem d_Mo_cut_4 : decode b_Mo_cut 4 = .ok (.iconst 4, 1) := by decide +kernel
theorem d_Mo_cut_5 : decode b_Mo_cut 5 = .ok (.if_icmp .ge 7, 3) := by decide +kernel
theorem d_Mo_cut_8 : decode b_Mo_cut 8 = .ok (.iconst 1, 1) := by decide +kernel
theorem d_Mo_cut_9 : decode b_Mo_cut 9 = .ok (.goto 4, 3) := by decide +kernel
theorem d_Mo_cut_12 : decode b_Mo_cut 12 = .ok (.iconst 0, 1) := by decide +kernel
theorem d_Mo_cut_13 : decode b_Mo_cut 13 = .ok (.istore_n 3, 1) := by decide +kernel
theorem d_Mo_cut_14 : decode b_Mo_cut 14 = .ok (.iconst 0, 1) := by decide +kernel
theorem d_Mo_cut_15 : decode b_Mo_cut 15 = .ok (.istore 4, 2) := by decide +kernel
theorem d_Mo_cut_17 : decode b_Mo_cut 17 = .ok (.iload 4, 2) := by decide +kernel
theorem d_Mo_cut_19 : decode b_Mo_cut 19 = .ok (.aload_n 0, 1) := by decide +kernel
theorem d_Mo_cut_20 : decode b_Mo_cut 20 = .ok (.getfield 97, 3) := by decide +kernel
theorem d_Mo_cut_23 : decode b_Mo_cut 23 = .ok (.if_icmp .ge 55, 3) := by decide +kernel
theorem d_Mo_cut_26 : decode b_Mo_cut 26 = .ok (.aload_n 0, 1) := by decide +kernel
theorem d_Mo_cut_27 : decode b_Mo_cut 27 = .ok (.getfield 25, 3) := by decide +kernel
theorem d_Mo_cut_30 : decode b_Mo_cut 30 = .ok (.iload 4, 2) := by decide +kernel
theorem d_Mo_cut_32 : decode b_Mo_cut 32 = .ok (.iaload, 1) := by decide +kernel
theorem d_Mo_cut_33 : decode b_Mo_cut 33 = .ok (.iload_n 1, 1) := by decide +kernel
theorem d_Mo_cut_34 : decode b_Mo_cut 34 = .ok (.if_icmp .ne 14, 3) := by decide +kernel
theorem d_Mo_cut_37 : decode b_Mo_cut 37 = .ok (.aload_n 0, 1) := by decide +kernel
theorem d_Mo_cut_38 : decode b_Mo_cut 38 = .ok (.getfield 28, 3) := by decide +kernel
theorem d_Mo_cut_41 : decode b_Mo_cut 41 = .ok (.iload 4, 2) := by decide +kernel
theorem d_Mo_cut_43 : decode b_Mo_cut 43 = .ok (.iaload, 1) := by decide +kernel
theorem d_Mo_cut_44 : decode b_Mo_cut 44 = .ok (.iload_n 2, 1) := by decide +kernel
theorem d_Mo_cut_45 : decode b_Mo_cut 45 = .ok (.if_icmp .eq 25, 3) := by decide +kernel
theorem d_Mo_cut_48 : decode b_Mo_cut 48 = .ok (.aload_n 0, 1) := by decide +kernel
theorem d_Mo_cut_49 : decode b_Mo_cut 49 = .ok (.getfield 25, 3) := by decide +kernel
theorem d_Mo_cut_52 : decode b_Mo_cut 52 = .ok (.iload 4, 2) := by decide +kernel
theorem d_Mo_cut_54 : decode b_Mo_cut 54 = .ok (.iaload, 1) := by decide +kernel
theorem d_Mo_cut_55 : decode b_Mo_cut 55 = .ok (.iload_n 2, 1) := by decide +kernel
theorem d_Mo_cut_56 : decode b_Mo_cut 56 = .ok (.if_icmp .ne 16, 3) := by decide +kernel
theorem d_Mo_cut_59 : decode b_Mo_cut 59 = .ok (.aload_n 0, 1) := by decide +kernel
theorem d_Mo_cut_60 : decode b_Mo_cut 60 = .ok (.getfield 28, 3) := by decide +kernel
theorem d_Mo_cut_63 : decode b_Mo_cut 63 = .ok (.iload 4, 2) := by decide +kernel
theorem d_Mo_cut_65 : decode b_Mo_cut 65 = .ok (.iaload, 1) := by decide +kernel
theorem d_Mo_cut_66 : decode b_Mo_cut 66 = .ok (.iload_n 1, 1) := by decide +kernel
theorem d_Mo_cut_67 : decode b_Mo_cut 67 = .ok (.if_icmp .ne 5, 3) := by decide +kernel
theorem d_Mo_cut_70 : decode b_Mo_cut 70 = .ok (.iconst 0, 1) := by decide +kernel
theorem d_Mo_cut_71 : decode b_Mo_cut 71 = .ok (.istore_n 3, 1) := by decide +kernel
theorem d_Mo_cut_72 : decode b_Mo_cut 72 = .ok (.iinc 4 1, 3) := by decide +kernel
theorem d_Mo_cut_75 : decode b_Mo_cut 75 = .ok (.goto (-58), 3) := by decide +kernel
theorem d_Mo_cut_78 : decode b_Mo_cut 78 = .ok (.aload_n 0, 1) := by decide +kernel
theorem d_Mo_cut_79 : decode b_Mo_cut 79 = .ok (.aload_n 0, 1) := by decide +kernel
theorem d_Mo_cut_80 : decode b_Mo_cut 80 = .ok (.iload_n 1, 1) := by decide +kernel
theorem d_Mo_cut_81 : decode b_Mo_cut 81 = .ok (.invokevirtual 94, 3) := by decide +kernel
theorem d_Mo_cut_84 : decode b_Mo_cut 84 = .ok (.ifCond .eq 20, 3) := by decide +kernel
theorem d_Mo_cut_87 : decode b_Mo_cut 87 = .ok (.aload_n 0, 1) := by decide +kernel
theorem d_Mo_cut_88 : decode b_Mo_cut 88 = .ok (.iload_n 2, 1) := by decide +kernel
theorem d_Mo_cut_89 : decode b_Mo_cut 89 = .ok (.invokevirtual 94, 3) := by decide +kernel
theorem d_Mo_cut_92 : decode b_Mo_cut 92 = .ok (.ifCond .eq 12, 3) := by decide +kernel
theorem d_Mo_cut_95 : decode b_Mo_cut 95 = .ok (.iload_n 1, 1) := by decide +kernel
theorem d_Mo_cut_96 : decode b_Mo_cut 96 = .ok (.iload_n 2, 1) := by decide +kernel
theorem d_Mo_cut_97 : decode b_Mo_cut 97 = .ok (.if_icmp .eq 7, 3) := by decide +kernel
theorem d_Mo_cut_100 : decode b_Mo_cut 100 = .ok (.iconst 1, 1) := by decide +kernel
theorem d_Mo_cut_101 : decode b_Mo_cut 101 = .ok (.goto 4, 3) := by decide +kernel
theorem d_Mo_cut_104 : decode b_Mo_cut 104 = .ok (.iconst 0, 1) := by decide +kernel
theorem d_Mo_cut_105 : decode b_Mo_cut 105 = .ok (.iload_n 3, 1) := by decide +kernel
theorem d_Mo_cut_106 : decode b_Mo_cut 106 = .ok (.invokevirtual 80, 3) := by decide +kernel
theorem d_Mo_cut_109 : decode b_Mo_cut 109 = .ok (.ifCond .ne 5, 3) := by decide +kernel
theorem d_Mo_cut_112 : decode b_Mo_cut 112 = .ok (.iconst 0, 1) := by decide +kernel
theorem d_Mo_cut_113 : decode b_Mo_cut 113 = .ok (.ireturn, 1) := by decide +kernel
theorem d_Mo_cut_114 : decode b_Mo_cut 114 = .ok (.aload_n 0, 1) := by decide +kernel
theorem d_Mo_cut_115 : decode b_Mo_cut 115 = .ok (.getfield 25, 3) := by decide +kernel
theorem d_Mo_cut_118 : decode b_Mo_cut 118 = .ok (.aload_n 0, 1) := by decide +kernel
theorem d_Mo_cut_119 : decode b_Mo_cut 119 = .ok (.getfield 97, 3) := by decide +kernel
theorem d_Mo_cut_122 : decode b_Mo_cut 122 = .ok (.iload_n 1, 1) := by decide +kernel
theorem d_Mo_cut_123 : decode b_Mo_cut 123 = .ok (.iastore, 1) := by decide +kernel
theorem d_Mo_cut_124 : decode b_Mo_cut 124 = .ok (.aload_n 0, 1) := by decide +kernel
theorem d_Mo_cut_125 : decode b_Mo_cut 125 = .ok (.getfield 28, 3) := by decide +kernel
theorem d_Mo_cut_128 : decode b_Mo_cut 128 = .ok (.aload_n 0, 1) := by decide +kernel
theorem d_Mo_cut_129 : decode b_Mo_cut 129 = .ok (.getfield 97, 3) := by decide +kernel
theorem d_Mo_cut_132 : decode b_Mo_cut 132 = .ok (.iload_n 2, 1) := by decide +kernel
theorem d_Mo_cut_133 : decode b_Mo_cut 133 = .ok (.iastore, 1) := by decide +kernel
theorem d_Mo_cut_134 : decode b_Mo_cut 134 = .ok (.aload_n 0, 1) := by decide +kernel
theorem d_Mo_cut_135 : decode b_Mo_cut 135 = .ok (.dup, 1) := by decide +kernel
theorem d_Mo_cut_136 : decode b_Mo_cut 136 = .ok (.getfield 97, 3) := by decide +kernel
theorem d_Mo_cut_139 : decode b_Mo_cut 139 = .ok (.iconst 1, 1) := by decide +kernel
theorem d_Mo_cut_140 : decode b_Mo_cut 140 = .ok (.iadd, 1) := by decide +kernel
theorem d_Mo_cut_141 : decode b_Mo_cut 141 = .ok (.putfield 97, 3) := by decide +kernel
theorem d_Mo_cut_144 : decode b_Mo_cut 144 = .ok (.aload_n 0, 1) := by decide +kernel
theorem d_Mo_cut_145 : decode b_Mo_cut 145 = .ok (.invokevirtual 87, 3) := by decide +kernel
theorem d_Mo_cut_148 : decode b_Mo_cut 148 = .ok (.aload_n 0, 1) := by decide +kernel
theorem d_Mo_cut_149 : decode b_Mo_cut 149 = .ok (.invokevirtual 84, 3) := by decide +kernel
theorem d_Mo_cut_152 : decode b_Mo_cut 152 = .ok (.aload_n 0, 1) := by decide +kernel
theorem d_Mo_cut_153 : decode b_Mo_cut 153 = .ok (.getfield 97, 3) := by decide +kernel
theorem d_Mo_cut_156 : decode b_Mo_cut 156 = .ok (.ireturn, 1) := by decide +kernel
abbrev b_Mo_kindOf : ByteArray := prog_8_method_14_code
def y_Mo_kindOf : MethodName := ⟨RMo, "kindOf", "(I)I"⟩
theorem k_Mo_kindOf : Cond.code y_Mo_kindOf b_Mo_kindOf 2 (some .int) ∈ tt := (tt4 50 rfl rfl)
theorem i_Mo_kindOf : Cond.instanceMethod y_Mo_kindOf ∈ tt := (tt4 49 rfl rfl)
theorem l_Mo_kindOf : Cond.selects RMo y_Mo_kindOf y_Mo_kindOf ∈ tt := (tt0 21 rfl rfl)
theorem d_Mo_kindOf_0 : decode b_Mo_kindOf 0 = .ok (.iload_n 1, 1) := by decide +kernel
theorem d_Mo_kindOf_1 : decode b_Mo_kindOf 1 = .ok (.aload_n 0, 1) := by decide +kernel
theorem d_Mo_kindOf_2 : decode b_Mo_kindOf 2 = .ok (.getfield 64, 3) := by decide +kernel
theorem d_Mo_kindOf_5 : decode b_Mo_kindOf 5 = .ok (.if_icmp .ge 12, 3) := by decide +kernel
theorem d_Mo_kindOf_8 : decode b_Mo_kindOf 8 = .ok (.aload_n 0, 1) := by decide +kernel
theorem d_Mo_kindOf_9 : decode b_Mo_kindOf 9 = .ok (.getfield 16, 3) := by decide +kernel
theorem d_Mo_kindOf_12 : decode b_Mo_kindOf 12 = .ok (.iload_n 1, 1) := by decide +kernel
theorem d_Mo_kindOf_13 : decode b_Mo_kindOf 13 = .ok (.iaload, 1) := by decide +kernel
theorem d_Mo_kindOf_14 : decode b_Mo_kindOf 14 = .ok (.goto 4, 3) := by decide +kernel
theorem d_Mo_kindOf_17 : decode b_Mo_kindOf 17 = .ok (.iconst 0, 1) := by decide +kernel
theorem d_Mo_kindOf_18 : decode b_Mo_kindOf 18 = .ok (.ireturn, 1) := by decide +kernel
abbrev b_Mo_rightOf : ByteArray := prog_8_method_15_code
def y_Mo_rightOf : MethodName := ⟨RMo, "rightOf", "(I)I"⟩
theorem k_Mo_rightOf : Cond.code y_Mo_rightOf b_Mo_rightOf 4 (some .int) ∈ tt := (tt4 54 rfl rfl)
theorem i_Mo_rightOf : Cond.instanceMethod y_Mo_rightOf ∈ tt := (tt4 53 rfl rfl)
theorem l_Mo_rightOf : Cond.selects RMo y_Mo_rightOf y_Mo_rightOf ∈ tt := (tt0 22 rfl rfl)
theorem d_Mo_rightOf_0 : decode b_Mo_rightOf 0 = .ok (.iload_n 1, 1) := by decide +kernel
theorem d_Mo_rightOf_1 : decode b_Mo_rightOf 1 = .ok (.aload_n 0, 1) := by decide +kernel
theorem d_Mo_rightOf_2 : decode b_Mo_rightOf 2 = .ok (.getfield 64, 3) := by decide +kernel
theorem d_Mo_rightOf_5 : decode b_Mo_rightOf 5 = .ok (.if_icmp .ge 10, 3) := by decide +kernel
theorem d_Mo_rightOf_8 : decode b_Mo_rightOf 8 = .ok (.aload_n 0, 1) := by decide +kernel
theorem d_Mo_rightOf_9 : decode b_Mo_rightOf 9 = .ok (.getfield 19, 3) := by decide +kernel
theorem d_Mo_rightOf_12 : decode b_Mo_rightOf 12 = .ok (.iload_n 1, 1) := by decide +kernel
theorem d_Mo_rightOf_13 : decode b_Mo_rightOf 13 = .ok (.iaload, 1) := by decide +kernel
theorem d_Mo_rightOf_14 : decode b_Mo_rightOf 14 = .ok (.ireturn, 1) := by decide +kernel
theorem d_Mo_rightOf_15 : decode b_Mo_rightOf 15 = .ok (.aload_n 0, 1) := by decide +kernel
theorem d_Mo_rightOf_16 : decode b_Mo_rightOf 16 = .ok (.getfield 13, 3) := by decide +kernel
theorem d_Mo_rightOf_19 : decode b_Mo_rightOf 19 = .ok (.aload_n 0, 1) := by decide +kernel
theorem d_Mo_rightOf_20 : decode b_Mo_rightOf 20 = .ok (.getfield 25, 3) := by decide +kernel
theorem d_Mo_rightOf_23 : decode b_Mo_rightOf 23 = .ok (.iload_n 1, 1) := by decide +kernel
theorem d_Mo_rightOf_24 : decode b_Mo_rightOf 24 = .ok (.aload_n 0, 1) := by decide +kernel
theorem d_Mo_rightOf_25 : decode b_Mo_rightOf 25 = .ok (.getfield 64, 3) := by decide +kernel
theorem d_Mo_rightOf_28 : decode b_Mo_rightOf 28 = .ok (.isub, 1) := by decide +kernel
theorem d_Mo_rightOf_29 : decode b_Mo_rightOf 29 = .ok (.iaload, 1) := by decide +kernel
theorem d_Mo_rightOf_30 : decode b_Mo_rightOf 30 = .ok (.iaload, 1) := by decide +kernel
theorem d_Mo_rightOf_31 : decode b_Mo_rightOf 31 = .ok (.istore_n 2, 1) := by decide +kernel
theorem d_Mo_rightOf_32 : decode b_Mo_rightOf 32 = .ok (.aload_n 0, 1) := by decide +kernel
theorem d_Mo_rightOf_33 : decode b_Mo_rightOf 33 = .ok (.getfield 13, 3) := by decide +kernel
theorem d_Mo_rightOf_36 : decode b_Mo_rightOf 36 = .ok (.aload_n 0, 1) := by decide +kernel
theorem d_Mo_rightOf_37 : decode b_Mo_rightOf 37 = .ok (.getfield 28, 3) := by decide +kernel
theorem d_Mo_rightOf_40 : decode b_Mo_rightOf 40 = .ok (.iload_n 1, 1) := by decide +kernel
theorem d_Mo_rightOf_41 : decode b_Mo_rightOf 41 = .ok (.aload_n 0, 1) := by decide +kernel
theorem d_Mo_rightOf_42 : decode b_Mo_rightOf 42 = .ok (.getfield 64, 3) := by decide +kernel
theorem d_Mo_rightOf_45 : decode b_Mo_rightOf 45 = .ok (.isub, 1) := by decide +kernel
theorem d_Mo_rightOf_46 : decode b_Mo_rightOf 46 = .ok (.iaload, 1) := by decide +kernel
theorem d_Mo_rightOf_47 : decode b_Mo_rightOf 47 = .ok (.iaload, 1) := by decide +kernel
theorem d_Mo_rightOf_48 : decode b_Mo_rightOf 48 = .ok (.istore_n 3, 1) := by decide +kernel
theorem d_Mo_rightOf_49 : decode b_Mo_rightOf 49 = .ok (.iload_n 2, 1) := by decide +kernel
theorem d_Mo_rightOf_50 : decode b_Mo_rightOf 50 = .ok (.iload_n 3, 1) := by decide +kernel
theorem d_Mo_rightOf_51 : decode b_Mo_rightOf 51 = .ok (.if_icmp .le 7, 3) := by decide +kernel
theorem d_Mo_rightOf_54 : decode b_Mo_rightOf 54 = .ok (.iload_n 2, 1) := by decide +kernel
theorem d_Mo_rightOf_55 : decode b_Mo_rightOf 55 = .ok (.goto 4, 3) := by decide +kernel
theorem d_Mo_rightOf_58 : decode b_Mo_rightOf 58 = .ok (.iload_n 3, 1) := by decide +kernel
theorem d_Mo_rightOf_59 : decode b_Mo_rightOf 59 = .ok (.ireturn, 1) := by decide +kernel
abbrev b_Mo_factorOf : ByteArray := prog_8_method_16_code
def y_Mo_factorOf : MethodName := ⟨RMo, "factorOf", "(II)I"⟩
theorem k_Mo_factorOf : Cond.code y_Mo_factorOf b_Mo_factorOf 3 (some .int) ∈ tt := (tt4 46 rfl rfl)
theorem i_Mo_factorOf : Cond.instanceMethod y_Mo_factorOf ∈ tt := (tt4 45 rfl rfl)
theorem l_Mo_factorOf : Cond.selects RMo y_Mo_factorOf y_Mo_factorOf ∈ tt := (tt0 20 rfl rfl)
theorem d_Mo_factorOf_0 : decode b_Mo_factorOf 0 = .ok (.iload_n 1, 1) := by decide +kernel
theorem d_Mo_factorOf_1 : decode b_Mo_factorOf 1 = .ok (.aload_n 0, 1) := by decide +kernel
theorem d_Mo_factorOf_2 : decode b_Mo_factorOf 2 = .ok (.getfield 64, 3) := by decide +kernel
theorem d_Mo_factorOf_5 : decode b_Mo_factorOf 5 = .ok (.if_icmp .ge 14, 3) := by decide +kernel
theorem d_Mo_factorOf_8 : decode b_Mo_factorOf 8 = .ok (.aload_n 0, 1) := by decide +kernel
theorem d_Mo_factorOf_9 : decode b_Mo_factorOf 9 = .ok (.getfield 22, 3) := by decide +kernel
theorem d_Mo_factorOf_12 : decode b_Mo_factorOf 12 = .ok (.iconst 5, 1) := by decide +kernel
theorem d_Mo_factorOf_13 : decode b_Mo_factorOf 13 = .ok (.iload_n 1, 1) := by decide +kernel
theorem d_Mo_factorOf_14 : decode b_Mo_factorOf 14 = .ok (.imul, 1) := by decide +kernel
theorem d_Mo_factorOf_15 : decode b_Mo_factorOf 15 = .ok (.iload_n 2, 1) := by decide +kernel
theorem d_Mo_factorOf_16 : decode b_Mo_factorOf 16 = .ok (.iadd, 1) := by decide +kernel
theorem d_Mo_factorOf_17 : decode b_Mo_factorOf 17 = .ok (.iaload, 1) := by decide +kernel
theorem d_Mo_factorOf_18 : decode b_Mo_factorOf 18 = .ok (.ireturn, 1) := by decide +kernel
theorem d_Mo_factorOf_19 : decode b_Mo_factorOf 19 = .ok (.aload_n 0, 1) := by decide +kernel
theorem d_Mo_factorOf_20 : decode b_Mo_factorOf 20 = .ok (.getfield 25, 3) := by decide +kernel
theorem d_Mo_factorOf_23 : decode b_Mo_factorOf 23 = .ok (.iload_n 1, 1) := by decide +kernel
theorem d_Mo_factorOf_24 : decode b_Mo_factorOf 24 = .ok (.aload_n 0, 1) := by decide +kernel
theorem d_Mo_factorOf_25 : decode b_Mo_factorOf 25 = .ok (.getfield 64, 3) := by decide +kernel
theorem d_Mo_factorOf_28 : decode b_Mo_factorOf 28 = .ok (.isub, 1) := by decide +kernel
theorem d_Mo_factorOf_29 : decode b_Mo_factorOf 29 = .ok (.iaload, 1) := by decide +kernel
theorem d_Mo_factorOf_30 : decode b_Mo_factorOf 30 = .ok (.iload_n 2, 1) := by decide +kernel
theorem d_Mo_factorOf_31 : decode b_Mo_factorOf 31 = .ok (.if_icmp .eq 18, 3) := by decide +kernel
theorem d_Mo_factorOf_34 : decode b_Mo_factorOf 34 = .ok (.aload_n 0, 1) := by decide +kernel
theorem d_Mo_factorOf_35 : decode b_Mo_factorOf 35 = .ok (.getfield 28, 3) := by decide +kernel
theorem d_Mo_factorOf_38 : decode b_Mo_factorOf 38 = .ok (.iload_n 1, 1) := by decide +kernel
theorem d_Mo_factorOf_39 : decode b_Mo_factorOf 39 = .ok (.aload_n 0, 1) := by decide +kernel
theorem d_Mo_factorOf_40 : decode b_Mo_factorOf 40 = .ok (.getfield 64, 3) := by decide +kernel
theorem d_Mo_factorOf_43 : decode b_Mo_factorOf 43 = .ok (.isub, 1) := by decide +kernel
theorem d_Mo_factorOf_44 : decode b_Mo_factorOf 44 = .ok (.iaload, 1) := by decide +kernel
theorem d_Mo_factorOf_45 : decode b_Mo_factorOf 45 = .ok (.iload_n 2, 1) := by decide +kernel
theorem d_Mo_factorOf_46 : decode b_Mo_factorOf 46 = .ok (.if_icmp .ne 7, 3) := by decide +kernel
theorem d_Mo_factorOf_49 : decode b_Mo_factorOf 49 = .ok (.iconst 1, 1) := by decide +kernel
theorem d_Mo_factorOf_50 : decode b_Mo_factorOf 50 = .ok (.goto 4, 3) := by decide +kernel
theorem d_Mo_factorOf_53 : decode b_Mo_factorOf 53 = .ok (.iconst 0, 1) := by decide +kernel
theorem d_Mo_factorOf_54 : decode b_Mo_factorOf 54 = .ok (.ireturn, 1) := by decide +kernel
abbrev b_Mo_canHold : ByteArray := prog_8_method_17_code
def y_Mo_canHold : MethodName := ⟨RMo, "canHold", "(I[II)Z"⟩
theorem k_Mo_canHold : Cond.code y_Mo_canHold b_Mo_canHold 7 (some .boolean) ∈ tt := (tt4 42 rfl rfl)
theorem i_Mo_canHold : Cond.instanceMethod y_Mo_canHold ∈ tt := (tt4 41 rfl rfl)
theorem l_Mo_canHold : Cond.selects RMo y_Mo_canHold y_Mo_canHold ∈ tt := (tt0 19 rfl rfl)
theorem d_Mo_canHold_0 : decode b_Mo_canHold 0 = .ok (.iconst 0, 1) := by decide +kernel
theorem d_Mo_canHold_1 : decode b_Mo_canHold 1 = .ok (.istore 4, 2) := by decide +kernel
theorem d_Mo_canHold_3 : decode b_Mo_canHold 3 = .ok (.iconst 0, 1) := by decide +kernel
theorem d_Mo_canHold_4 : decode b_Mo_canHold 4 = .ok (.istore 5, 2) := by decide +kernel
theorem d_Mo_canHold_6 : decode b_Mo_canHold 6 = .ok (.iload 5, 2) := by decide +kernel
theorem d_Mo_canHold_8 : decode b_Mo_canHold 8 = .ok (.iload_n 3, 1) := by decide +kernel
theorem d_Mo_canHold_9 : decode b_Mo_canHold 9 = .ok (.if_icmp .ge 26, 3) := by decide +kernel
theorem d_Mo_canHold_12 : decode b_Mo_canHold 12 = .ok (.iload 4, 2) := by decide +kernel
theorem d_Mo_canHold_14 : decode b_Mo_canHold 14 = .ok (.aload_n 0, 1) := by decide +kernel
theorem d_Mo_canHold_15 : decode b_Mo_canHold 15 = .ok (.iload_n 1, 1) := by decide +kernel
theorem d_Mo_canHold_16 : decode b_Mo_canHold 16 = .ok (.iload 5, 2) := by decide +kernel
theorem d_Mo_canHold_18 : decode b_Mo_canHold 18 = .ok (.invokevirtual 100, 3) := by decide +kernel
theorem d_Mo_canHold_21 : decode b_Mo_canHold 21 = .ok (.aload_n 2, 1) := by decide +kernel
theorem d_Mo_canHold_22 : decode b_Mo_canHold 22 = .ok (.iload 5, 2) := by decide +kernel
theorem d_Mo_canHold_24 : decode b_Mo_canHold 24 = .ok (.iaload, 1) := by decide +kernel
theorem d_Mo_canHold_25 : decode b_Mo_canHold 25 = .ok (.imul, 1) := by decide +kernel
theorem d_Mo_canHold_26 : decode b_Mo_canHold 26 = .ok (.iadd, 1) := by decide +kernel
theorem d_Mo_canHold_27 : decode b_Mo_canHold 27 = .ok (.istore 4, 2) := by decide +kernel
theorem d_Mo_canHold_29 : decode b_Mo_canHold 29 = .ok (.iinc 5 1, 3) := by decide +kernel
theorem d_Mo_canHold_32 : decode b_Mo_canHold 32 = .ok (.goto (-26), 3) := by decide +kernel
theorem d_Mo_canHold_35 : decode b_Mo_canHold 35 = .ok (.iload_n 3, 1) := by decide +kernel
theorem d_Mo_canHold_36 : decode b_Mo_canHold 36 = .ok (.istore 5, 2) := by decide +kernel
theorem d_Mo_canHold_38 : decode b_Mo_canHold 38 = .ok (.iload 5, 2) := by decide +kernel
theorem d_Mo_canHold_40 : decode b_Mo_canHold 40 = .ok (.aload_n 0, 1) := by decide +kernel
theorem d_Mo_canHold_41 : decode b_Mo_canHold 41 = .ok (.getfield 57, 3) := by decide +kernel
theorem d_Mo_canHold_44 : decode b_Mo_canHold 44 = .ok (.if_icmp .ge 54, 3) := by decide +kernel
theorem d_Mo_canHold_47 : decode b_Mo_canHold 47 = .ok (.aload_n 0, 1) := by decide +kernel
theorem d_Mo_canHold_48 : decode b_Mo_canHold 48 = .ok (.iload_n 1, 1) := by decide +kernel
theorem d_Mo_canHold_49 : decode b_Mo_canHold 49 = .ok (.iload 5, 2) := by decide +kernel
theorem d_Mo_canHold_51 : decode b_Mo_canHold 51 = .ok (.invokevirtual 100, 3) := by decide +kernel
theorem d_Mo_canHold_54 : decode b_Mo_canHold 54 = .ok (.aload_n 0, 1) := by decide +kernel
theorem d_Mo_canHold_55 : decode b_Mo_canHold 55 = .ok (.getfield 13, 3) := by decide +kernel
theorem d_Mo_canHold_58 : decode b_Mo_canHold 58 = .ok (.iload 5, 2) := by decide +kernel
theorem d_Mo_canHold_60 : decode b_Mo_canHold 60 = .ok (.iaload, 1) := by decide +kernel
theorem d_Mo_canHold_61 : decode b_Mo_canHold 61 = .ok (.imul, 1) := by decide +kernel
theorem d_Mo_canHold_62 : decode b_Mo_canHold 62 = .ok (.istore 6, 2) := by decide +kernel
theorem d_Mo_canHold_64 : decode b_Mo_canHold 64 = .ok (.aload_n 0, 1) := by decide +kernel
theorem d_Mo_canHold_65 : decode b_Mo_canHold 65 = .ok (.iload_n 1, 1) := by decide +kernel
theorem d_Mo_canHold_66 : decode b_Mo_canHold 66 = .ok (.invokevirtual 104, 3) := by decide +kernel
theorem d_Mo_canHold_69 : decode b_Mo_canHold 69 = .ok (.ifCond .ne 11, 3) := by decide +kernel
theorem d_Mo_canHold_72 : decode b_Mo_canHold 72 = .ok (.iload 6, 2) := by decide +kernel
theorem d_Mo_canHold_74 : decode b_Mo_canHold 74 = .ok (.ifCond .ge 18, 3) := by decide +kernel
theorem d_Mo_canHold_77 : decode b_Mo_canHold 77 = .ok (.goto 8, 3) := by decide +kernel
theorem d_Mo_canHold_80 : decode b_Mo_canHold 80 = .ok (.iload 6, 2) := by decide +kernel
theorem d_Mo_canHold_82 : decode b_Mo_canHold 82 = .ok (.ifCond .le 10, 3) := by decide +kernel
theorem d_Mo_canHold_85 : decode b_Mo_canHold 85 = .ok (.iload 4, 2) := by decide +kernel
theorem d_Mo_canHold_87 : decode b_Mo_canHold 87 = .ok (.iload 6, 2) := by decide +kernel
theorem d_Mo_canHold_89 : decode b_Mo_canHold 89 = .ok (.iadd, 1) := by decide +kernel
theorem d_Mo_canHold_90 : decode b_Mo_canHold 90 = .ok (.istore 4, 2) := by decide +kernel
theorem d_Mo_canHold_92 : decode b_Mo_canHold 92 = .ok (.iinc 5 1, 3) := by decide +kernel
theorem d_Mo_canHold_95 : decode b_Mo_canHold 95 = .ok (.goto (-57), 3) := by decide +kernel
theorem d_Mo_canHold_98 : decode b_Mo_canHold 98 = .ok (.aload_n 0, 1) := by decide +kernel
theorem d_Mo_canHold_99 : decode b_Mo_canHold 99 = .ok (.iload_n 1, 1) := by decide +kernel
theorem d_Mo_canHold_100 : decode b_Mo_canHold 100 = .ok (.invokevirtual 104, 3) := by decide +kernel
theorem d_Mo_canHold_103 : decode b_Mo_canHold 103 = .ok (.ifCond .ne 21, 3) := by decide +kernel
theorem d_Mo_canHold_106 : decode b_Mo_canHold 106 = .ok (.iload 4, 2) := by decide +kernel
theorem d_Mo_canHold_108 : decode b_Mo_canHold 108 = .ok (.aload_n 0, 1) := by decide +kernel
theorem d_Mo_canHold_109 : decode b_Mo_canHold 109 = .ok (.iload_n 1, 1) := by decide +kernel
theorem d_Mo_canHold_110 : decode b_Mo_canHold 110 = .ok (.invokevirtual 108, 3) := by decide +kernel
theorem d_Mo_canHold_113 : decode b_Mo_canHold 113 = .ok (.if_icmp .gt 7, 3) := by decide +kernel
theorem d_Mo_canHold_116 : decode b_Mo_canHold 116 = .ok (.iconst 1, 1) := by decide +kernel
theorem d_Mo_canHold_117 : decode b_Mo_canHold 117 = .ok (.goto 22, 3) := by decide +kernel
theorem d_Mo_canHold_120 : decode b_Mo_canHold 120 = .ok (.iconst 0, 1) := by decide +kernel
theorem d_Mo_canHold_121 : decode b_Mo_canHold 121 = .ok (.goto 18, 3) := by decide +kernel
theorem d_Mo_canHold_124 : decode b_Mo_canHold 124 = .ok (.iload 4, 2) := by decide +kernel
theorem d_Mo_canHold_126 : decode b_Mo_canHold 126 = .ok (.aload_n 0, 1) := by decide +kernel
theorem d_Mo_canHold_127 : decode b_Mo_canHold 127 = .ok (.iload_n 1, 1) := by decide +kernel
theorem d_Mo_canHold_128 : decode b_Mo_canHold 128 = .ok (.invokevirtual 108, 3) := by decide +kernel
theorem d_Mo_canHold_131 : decode b_Mo_canHold 131 = .ok (.if_icmp .lt 7, 3) := by decide +kernel
theorem d_Mo_canHold_134 : decode b_Mo_canHold 134 = .ok (.iconst 1, 1) := by decide +kernel
theorem d_Mo_canHold_135 : decode b_Mo_canHold 135 = .ok (.goto 4, 3) := by decide +kernel
theorem d_Mo_canHold_138 : decode b_Mo_canHold 138 = .ok (.iconst 0, 1) := by decide +kernel
theorem d_Mo_canHold_139 : decode b_Mo_canHold 139 = .ok (.ireturn, 1) := by decide +kernel
abbrev b_Mo_worthOf : ByteArray := prog_8_method_18_code
def y_Mo_worthOf : MethodName := ⟨RMo, "worthOf", "(I)I"⟩
theorem k_Mo_worthOf : Cond.code y_Mo_worthOf b_Mo_worthOf 4 (some .int) ∈ tt := (tt4 38 rfl rfl)
theorem i_Mo_worthOf : Cond.instanceMethod y_Mo_worthOf ∈ tt := (tt4 37 rfl rfl)
theorem l_Mo_worthOf : Cond.selects RMo y_Mo_worthOf y_Mo_worthOf ∈ tt := (tt0 18 rfl rfl)
theorem d_Mo_worthOf_0 : decode b_Mo_worthOf 0 = .ok (.iconst 0, 1) := by decide +kernel
theorem d_Mo_worthOf_1 : decode b_Mo_worthOf 1 = .ok (.istore_n 2, 1) := by decide +kernel
theorem d_Mo_worthOf_2 : decode b_Mo_worthOf 2 = .ok (.iconst 0, 1) := by decide +kernel
theorem d_Mo_worthOf_3 : decode b_Mo_worthOf 3 = .ok (.istore_n 3, 1) := by decide +kernel
theorem d_Mo_worthOf_4 : decode b_Mo_worthOf 4 = .ok (.iload_n 3, 1) := by decide +kernel
theorem d_Mo_worthOf_5 : decode b_Mo_worthOf 5 = .ok (.iload_n 1, 1) := by decide +kernel
theorem d_Mo_worthOf_6 : decode b_Mo_worthOf 6 = .ok (.if_icmp .ge 25, 3) := by decide +kernel
theorem d_Mo_worthOf_9 : decode b_Mo_worthOf 9 = .ok (.iload_n 2, 1) := by decide +kernel
theorem d_Mo_worthOf_10 : decode b_Mo_worthOf 10 = .ok (.aload_n 0, 1) := by decide +kernel
theorem d_Mo_worthOf_11 : decode b_Mo_worthOf 11 = .ok (.getfield 7, 3) := by decide +kernel
theorem d_Mo_worthOf_14 : decode b_Mo_worthOf 14 = .ok (.iload_n 3, 1) := by decide +kernel
theorem d_Mo_worthOf_15 : decode b_Mo_worthOf 15 = .ok (.iaload, 1) := by decide +kernel
theorem d_Mo_worthOf_16 : decode b_Mo_worthOf 16 = .ok (.aload_n 0, 1) := by decide +kernel
theorem d_Mo_worthOf_17 : decode b_Mo_worthOf 17 = .ok (.getfield 41, 3) := by decide +kernel
theorem d_Mo_worthOf_20 : decode b_Mo_worthOf 20 = .ok (.iload_n 3, 1) := by decide +kernel
theorem d_Mo_worthOf_21 : decode b_Mo_worthOf 21 = .ok (.iaload, 1) := by decide +kernel
theorem d_Mo_worthOf_22 : decode b_Mo_worthOf 22 = .ok (.imul, 1) := by decide +kernel
theorem d_Mo_worthOf_23 : decode b_Mo_worthOf 23 = .ok (.iadd, 1) := by decide +kernel
theorem d_Mo_worthOf_24 : decode b_Mo_worthOf 24 = .ok (.istore_n 2, 1) := by decide +kernel
theorem d_Mo_worthOf_25 : decode b_Mo_worthOf 25 = .ok (.iinc 3 1, 3) := by decide +kernel
theorem d_Mo_worthOf_28 : decode b_Mo_worthOf 28 = .ok (.goto (-24), 3) := by decide +kernel
theorem d_Mo_worthOf_31 : decode b_Mo_worthOf 31 = .ok (.iload_n 2, 1) := by decide +kernel
theorem d_Mo_worthOf_32 : decode b_Mo_worthOf 32 = .ok (.ireturn, 1) := by decide +kernel
abbrev b_Mo_isCut : ByteArray := prog_8_method_19_code
def y_Mo_isCut : MethodName := ⟨RMo, "isCut", "(I)Z"⟩
theorem k_Mo_isCut : Cond.code y_Mo_isCut b_Mo_isCut 4 (some .boolean) ∈ tt := (tt4 34 rfl rfl)
theorem i_Mo_isCut : Cond.instanceMethod y_Mo_isCut ∈ tt := (tt4 33 rfl rfl)
theorem l_Mo_isCut : Cond.selects RMo y_Mo_isCut y_Mo_isCut ∈ tt := (tt0 17 rfl rfl)
theorem d_Mo_isCut_0 : decode b_Mo_isCut 0 = .ok (.aload_n 0, 1) := by decide +kernel
theorem d_Mo_isCut_1 : decode b_Mo_isCut 1 = .ok (.iload_n 1, 1) := by decide +kernel
theorem d_Mo_isCut_2 : decode b_Mo_isCut 2 = .ok (.invokevirtual 111, 3) := by decide +kernel
theorem d_Mo_isCut_5 : decode b_Mo_isCut 5 = .ok (.istore_n 2, 1) := by decide +kernel
theorem d_Mo_isCut_6 : decode b_Mo_isCut 6 = .ok (.iload_n 1, 1) := by decide +kernel
theorem d_Mo_isCut_7 : decode b_Mo_isCut 7 = .ok (.istore_n 3, 1) := by decide +kernel
theorem d_Mo_isCut_8 : decode b_Mo_isCut 8 = .ok (.iload_n 3, 1) := by decide +kernel
theorem d_Mo_isCut_9 : decode b_Mo_isCut 9 = .ok (.aload_n 0, 1) := by decide +kernel
theorem d_Mo_isCut_10 : decode b_Mo_isCut 10 = .ok (.getfield 57, 3) := by decide +kernel
theorem d_Mo_isCut_13 : decode b_Mo_isCut 13 = .ok (.if_icmp .ge 34, 3) := by decide +kernel
theorem d_Mo_isCut_16 : decode b_Mo_isCut 16 = .ok (.aload_n 0, 1) := by decide +kernel
theorem d_Mo_isCut_17 : decode b_Mo_isCut 17 = .ok (.getfield 7, 3) := by decide +kernel
theorem d_Mo_isCut_20 : decode b_Mo_isCut 20 = .ok (.iload_n 3, 1) := by decide +kernel
theorem d_Mo_isCut_21 : decode b_Mo_isCut 21 = .ok (.iaload, 1) := by decide +kernel
theorem d_Mo_isCut_22 : decode b_Mo_isCut 22 = .ok (.ifCond .le 19, 3) := by decide +kernel
theorem d_Mo_isCut_25 : decode b_Mo_isCut 25 = .ok (.iload_n 2, 1) := by decide +kernel
theorem d_Mo_isCut_26 : decode b_Mo_isCut 26 = .ok (.aload_n 0, 1) := by decide +kernel
theorem d_Mo_isCut_27 : decode b_Mo_isCut 27 = .ok (.getfield 7, 3) := by decide +kernel
theorem d_Mo_isCut_30 : decode b_Mo_isCut 30 = .ok (.iload_n 3, 1) := by decide +kernel
theorem d_Mo_isCut_31 : decode b_Mo_isCut 31 = .ok (.iaload, 1) := by decide +kernel
theorem d_Mo_isCut_32 : decode b_Mo_isCut 32 = .ok (.aload_n 0, 1) := by decide +kernel
theorem d_Mo_isCut_33 : decode b_Mo_isCut 33 = .ok (.getfield 13, 3) := by decide +kernel
theorem d_Mo_isCut_36 : decode b_Mo_isCut 36 = .ok (.iload_n 3, 1) := by decide +kernel
theorem d_Mo_isCut_37 : decode b_Mo_isCut 37 = .ok (.iaload, 1) := by decide +kernel
theorem d_Mo_isCut_38 : decode b_Mo_isCut 38 = .ok (.imul, 1) := by decide +kernel
theorem d_Mo_isCut_39 : decode b_Mo_isCut 39 = .ok (.iadd, 1) := by decide +kernel
theorem d_Mo_isCut_40 : decode b_Mo_isCut 40 = .ok (.istore_n 2, 1) := by decide +kernel
theorem d_Mo_isCut_41 : decode b_Mo_isCut 41 = .ok (.iinc 3 1, 3) := by decide +kernel
theorem d_Mo_isCut_44 : decode b_Mo_isCut 44 = .ok (.goto (-36), 3) := by decide +kernel
theorem d_Mo_isCut_47 : decode b_Mo_isCut 47 = .ok (.aload_n 0, 1) := by decide +kernel
theorem d_Mo_isCut_48 : decode b_Mo_isCut 48 = .ok (.getfield 74, 3) := by decide +kernel
theorem d_Mo_isCut_51 : decode b_Mo_isCut 51 = .ok (.ifCond .eq 13, 3) := by decide +kernel
theorem d_Mo_isCut_54 : decode b_Mo_isCut 54 = .ok (.iload_n 2, 1) := by decide +kernel
theorem d_Mo_isCut_55 : decode b_Mo_isCut 55 = .ok (.aload_n 0, 1) := by decide +kernel
theorem d_Mo_isCut_56 : decode b_Mo_isCut 56 = .ok (.getfield 114, 3) := by decide +kernel
theorem d_Mo_isCut_59 : decode b_Mo_isCut 59 = .ok (.if_icmp .gt 5, 3) := by decide +kernel
theorem d_Mo_isCut_62 : decode b_Mo_isCut 62 = .ok (.iconst 1, 1) := by decide +kernel
theorem d_Mo_isCut_63 : decode b_Mo_isCut 63 = .ok (.ireturn, 1) := by decide +kernel
theorem d_Mo_isCut_64 : decode b_Mo_isCut 64 = .ok (.iconst 0, 1) := by decide +kernel
theorem d_Mo_isCut_65 : decode b_Mo_isCut 65 = .ok (.istore_n 3, 1) := by decide +kernel
theorem d_Mo_isCut_66 : decode b_Mo_isCut 66 = .ok (.iload_n 3, 1) := by decide +kernel
theorem d_Mo_isCut_67 : decode b_Mo_isCut 67 = .ok (.aload_n 0, 1) := by decide +kernel
theorem d_Mo_isCut_68 : decode b_Mo_isCut 68 = .ok (.getfield 64, 3) := by decide +kernel
theorem d_Mo_isCut_71 : decode b_Mo_isCut 71 = .ok (.aload_n 0, 1) := by decide +kernel
theorem d_Mo_isCut_72 : decode b_Mo_isCut 72 = .ok (.getfield 97, 3) := by decide +kernel
theorem d_Mo_isCut_75 : decode b_Mo_isCut 75 = .ok (.iadd, 1) := by decide +kernel
theorem d_Mo_isCut_76 : decode b_Mo_isCut 76 = .ok (.if_icmp .ge 24, 3) := by decide +kernel
theorem d_Mo_isCut_79 : decode b_Mo_isCut 79 = .ok (.aload_n 0, 1) := by decide +kernel
theorem d_Mo_isCut_80 : decode b_Mo_isCut 80 = .ok (.iload_n 3, 1) := by decide +kernel
theorem d_Mo_isCut_81 : decode b_Mo_isCut 81 = .ok (.aload_n 0, 1) := by decide +kernel
theorem d_Mo_isCut_82 : decode b_Mo_isCut 82 = .ok (.getfield 41, 3) := by decide +kernel
theorem d_Mo_isCut_85 : decode b_Mo_isCut 85 = .ok (.iload_n 1, 1) := by decide +kernel
theorem d_Mo_isCut_86 : decode b_Mo_isCut 86 = .ok (.invokevirtual 117, 3) := by decide +kernel
theorem d_Mo_isCut_89 : decode b_Mo_isCut 89 = .ok (.ifCond .ne 5, 3) := by decide +kernel
theorem d_Mo_isCut_92 : decode b_Mo_isCut 92 = .ok (.iconst 1, 1) := by decide +kernel
theorem d_Mo_isCut_93 : decode b_Mo_isCut 93 = .ok (.ireturn, 1) := by decide +kernel
theorem d_Mo_isCut_94 : decode b_Mo_isCut 94 = .ok (.iinc 3 1, 3) := by decide +kernel
theorem d_Mo_isCut_97 : decode b_Mo_isCut 97 = .ok (.goto (-31), 3) := by decide +kernel
theorem d_Mo_isCut_100 : decode b_Mo_isCut 100 = .ok (.iconst 0, 1) := by decide +kernel
theorem d_Mo_isCut_101 : decode b_Mo_isCut 101 = .ok (.ireturn, 1) := by decide +kernel
abbrev b_Mo_keeps : ByteArray := prog_8_method_20_code
def y_Mo_keeps : MethodName := ⟨RMo, "keeps", "()V"⟩
theorem k_Mo_keeps : Cond.code y_Mo_keeps b_Mo_keeps 2 none ∈ tt := (tt4 58 rfl rfl)
theorem i_Mo_keeps : Cond.instanceMethod y_Mo_keeps ∈ tt := (tt4 57 rfl rfl)
theorem l_Mo_keeps : Cond.selects RMo y_Mo_keeps y_Mo_keeps ∈ tt := (tt0 23 rfl rfl)
theorem d_Mo_keeps_0 : decode b_Mo_keeps 0 = .ok (.aload_n 0, 1) := by decide +kernel
theorem d_Mo_keeps_1 : decode b_Mo_keeps 1 = .ok (.iconst 1, 1) := by decide +kernel
theorem d_Mo_keeps_2 : decode b_Mo_keeps 2 = .ok (.putfield 74, 3) := by decide +kernel
theorem d_Mo_keeps_5 : decode b_Mo_keeps 5 = .ok (.aload_n 0, 1) := by decide +kernel
theorem d_Mo_keeps_6 : decode b_Mo_keeps 6 = .ok (.aload_n 0, 1) := by decide +kernel
theorem d_Mo_keeps_7 : decode b_Mo_keeps 7 = .ok (.aload_n 0, 1) := by decide +kernel
theorem d_Mo_keeps_8 : decode b_Mo_keeps 8 = .ok (.getfield 57, 3) := by decide +kernel
theorem d_Mo_keeps_11 : decode b_Mo_keeps 11 = .ok (.invokevirtual 111, 3) := by decide +kernel
theorem d_Mo_keeps_14 : decode b_Mo_keeps 14 = .ok (.putfield 114, 3) := by decide +kernel
theorem d_Mo_keeps_17 : decode b_Mo_keeps 17 = .ok (.iconst 0, 1) := by decide +kernel
theorem d_Mo_keeps_18 : decode b_Mo_keeps 18 = .ok (.istore_n 1, 1) := by decide +kernel
theorem d_Mo_keeps_19 : decode b_Mo_keeps 19 = .ok (.iload_n 1, 1) := by decide +kernel
theorem d_Mo_keeps_20 : decode b_Mo_keeps 20 = .ok (.aload_n 0, 1) := by decide +kernel
theorem d_Mo_keeps_21 : decode b_Mo_keeps 21 = .ok (.getfield 57, 3) := by decide +kernel
theorem d_Mo_keeps_24 : decode b_Mo_keeps 24 = .ok (.if_icmp .ge 21, 3) := by decide +kernel
theorem d_Mo_keeps_27 : decode b_Mo_keeps 27 = .ok (.aload_n 0, 1) := by decide +kernel
theorem d_Mo_keeps_28 : decode b_Mo_keeps 28 = .ok (.getfield 44, 3) := by decide +kernel
theorem d_Mo_keeps_31 : decode b_Mo_keeps 31 = .ok (.iload_n 1, 1) := by decide +kernel
theorem d_Mo_keeps_32 : decode b_Mo_keeps 32 = .ok (.aload_n 0, 1) := by decide +kernel
theorem d_Mo_keeps_33 : decode b_Mo_keeps 33 = .ok (.getfield 41, 3) := by decide +kernel
theorem d_Mo_keeps_36 : decode b_Mo_keeps 36 = .ok (.iload_n 1, 1) := by decide +kernel
theorem d_Mo_keeps_37 : decode b_Mo_keeps 37 = .ok (.iaload, 1) := by decide +kernel
theorem d_Mo_keeps_38 : decode b_Mo_keeps 38 = .ok (.iastore, 1) := by decide +kernel
theorem d_Mo_keeps_39 : decode b_Mo_keeps 39 = .ok (.iinc 1 1, 3) := by decide +kernel
theorem d_Mo_keeps_42 : decode b_Mo_keeps 42 = .ok (.goto (-23), 3) := by decide +kernel
theorem d_Mo_keeps_45 : decode b_Mo_keeps 45 = .ok (.return_, 1) := by decide +kernel
abbrev b_Mo_run : ByteArray := prog_8_method_21_code
def y_Mo_run : MethodName := ⟨RMo, "run", "(I)I"⟩
theorem k_Mo_run : Cond.code y_Mo_run b_Mo_run 3 (some .int) ∈ tt := (tt4 29 rfl rfl)
theorem i_Mo_run : Cond.instanceMethod y_Mo_run ∈ tt := (tt4 27 rfl rfl)
theorem l_Mo_run : Cond.selects RMo y_Mo_run y_Mo_run ∈ tt := (tt4 28 rfl rfl)
theorem d_Mo_run_0 : decode b_Mo_run 0 = .ok (.aload_n 0, 1) := by decide +kernel
theorem d_Mo_run_1 : decode b_Mo_run 1 = .ok (.iload_n 1, 1) := by decide +kernel
theorem d_Mo_run_2 : decode b_Mo_run 2 = .ok (.iconst 0, 1) := by decide +kernel
theorem d_Mo_run_3 : decode b_Mo_run 3 = .ok (.ldc 121, 2) := by decide +kernel
theorem d_Mo_run_5 : decode b_Mo_run 5 = .ok (.invokestatic 60, 3) := by decide +kernel
theorem d_Mo_run_8 : decode b_Mo_run 8 = .ok (.iconst 1, 1) := by decide +kernel
theorem d_Mo_run_9 : decode b_Mo_run 9 = .ok (.invokevirtual 80, 3) := by decide +kernel
theorem d_Mo_run_12 : decode b_Mo_run 12 = .ok (.ifCond .ne 5, 3) := by decide +kernel
theorem d_Mo_run_15 : decode b_Mo_run 15 = .ok (.iconst 0, 1) := by decide +kernel
theorem d_Mo_run_16 : decode b_Mo_run 16 = .ok (.ireturn, 1) := by decide +kernel
theorem d_Mo_run_17 : decode b_Mo_run 17 = .ok (.iload_n 1, 1) := by decide +kernel
theorem d_Mo_run_18 : decode b_Mo_run 18 = .ok (.istore_n 2, 1) := by decide +kernel
theorem d_Mo_run_19 : decode b_Mo_run 19 = .ok (.aload_n 0, 1) := by decide +kernel
theorem d_Mo_run_20 : decode b_Mo_run 20 = .ok (.getfield 70, 3) := by decide +kernel
theorem d_Mo_run_23 : decode b_Mo_run 23 = .ok (.ifCond .ne 27, 3) := by decide +kernel
theorem d_Mo_run_26 : decode b_Mo_run 26 = .ok (.aload_n 0, 1) := by decide +kernel
theorem d_Mo_run_27 : decode b_Mo_run 27 = .ok (.getfield 57, 3) := by decide +kernel
theorem d_Mo_run_30 : decode b_Mo_run 30 = .ok (.ifCond .ne 20, 3) := by decide +kernel
theorem d_Mo_run_33 : decode b_Mo_run 33 = .ok (.aload_n 0, 1) := by decide +kernel
theorem d_Mo_run_34 : decode b_Mo_run 34 = .ok (.iconst 0, 1) := by decide +kernel
theorem d_Mo_run_35 : decode b_Mo_run 35 = .ok (.invokevirtual 122, 3) := by decide +kernel
theorem d_Mo_run_38 : decode b_Mo_run 38 = .ok (.ifCond .ne 7, 3) := by decide +kernel
theorem d_Mo_run_41 : decode b_Mo_run 41 = .ok (.aload_n 0, 1) := by decide +kernel
theorem d_Mo_run_42 : decode b_Mo_run 42 = .ok (.invokevirtual 125, 3) := by decide +kernel
theorem d_Mo_run_45 : decode b_Mo_run 45 = .ok (.aload_n 0, 1) := by decide +kernel
theorem d_Mo_run_46 : decode b_Mo_run 46 = .ok (.iconst 1, 1) := by decide +kernel
theorem d_Mo_run_47 : decode b_Mo_run 47 = .ok (.putfield 70, 3) := by decide +kernel
theorem d_Mo_run_50 : decode b_Mo_run 50 = .ok (.aload_n 0, 1) := by decide +kernel
theorem d_Mo_run_51 : decode b_Mo_run 51 = .ok (.getfield 70, 3) := by decide +kernel
theorem d_Mo_run_54 : decode b_Mo_run 54 = .ok (.ifCond .ne 186, 3) := by decide +kernel
theorem d_Mo_run_57 : decode b_Mo_run 57 = .ok (.aload_n 0, 1) := by decide +kernel
theorem d_Mo_run_58 : decode b_Mo_run 58 = .ok (.getfield 38, 3) := by decide +kernel
theorem d_Mo_run_61 : decode b_Mo_run 61 = .ok (.aload_n 0, 1) := by decide +kernel
theorem d_Mo_run_62 : decode b_Mo_run 62 = .ok (.getfield 67, 3) := by decide +kernel
theorem d_Mo_run_65 : decode b_Mo_run 65 = .ok (.iaload, 1) := by decide +kernel
theorem d_Mo_run_66 : decode b_Mo_run 66 = .ok (.ifCond .ge 44, 3) := by decide +kernel
theorem d_Mo_run_69 : decode b_Mo_run 69 = .ok (.aload_n 0, 1) := by decide +kernel
theorem d_Mo_run_70 : decode b_Mo_run 70 = .ok (.dup, 1) := by decide +kernel
theorem d_Mo_run_71 : decode b_Mo_run 71 = .ok (.getfield 67, 3) := by decide +kernel
theorem d_Mo_run_74 : decode b_Mo_run 74 = .ok (.iconst 1, 1) := by decide +kernel
theorem d_Mo_run_75 : decode b_Mo_run 75 = .ok (.isub, 1) := by decide +kernel
theorem d_Mo_run_76 : decode b_Mo_run 76 = .ok (.putfield 67, 3) := by decide +kernel
theorem d_Mo_run_79 : decode b_Mo_run 79 = .ok (.aload_n 0, 1) := by decide +kernel
theorem d_Mo_run_80 : decode b_Mo_run 80 = .ok (.getfield 67, 3) := by decide +kernel
theorem d_Mo_run_83 : decode b_Mo_run 83 = .ok (.ifCond .ge 11, 3) := by decide +kernel
theorem d_Mo_run_86 : decode b_Mo_run 86 = .ok (.aload_n 0, 1) := by decide +kernel
theorem d_Mo_run_87 : decode b_Mo_run 87 = .ok (.iconst 1, 1) := by decide +kernel
theorem d_Mo_run_88 : decode b_Mo_run 88 = .ok (.putfield 70, 3) := by decide +kernel
theorem d_Mo_run_91 : decode b_Mo_run 91 = .ok (.goto (-41), 3) := by decide +kernel
theorem d_Mo_run_94 : decode b_Mo_run 94 = .ok (.aload_n 0, 1) := by decide +kernel
theorem d_Mo_run_95 : decode b_Mo_run 95 = .ok (.getfield 38, 3) := by decide +kernel
theorem d_Mo_run_98 : decode b_Mo_run 98 = .ok (.aload_n 0, 1) := by decide +kernel
theorem d_Mo_run_99 : decode b_Mo_run 99 = .ok (.getfield 67, 3) := by decide +kernel
theorem d_Mo_run_102 : decode b_Mo_run 102 = .ok (.dup2, 1) := by decide +kernel
theorem d_Mo_run_103 : decode b_Mo_run 103 = .ok (.iaload, 1) := by decide +kernel
theorem d_Mo_run_104 : decode b_Mo_run 104 = .ok (.iconst 1, 1) := by decide +kernel
theorem d_Mo_run_105 : decode b_Mo_run 105 = .ok (.isub, 1) := by decide +kernel
theorem d_Mo_run_106 : decode b_Mo_run 106 = .ok (.iastore, 1) := by decide +kernel
theorem d_Mo_run_107 : decode b_Mo_run 107 = .ok (.goto (-57), 3) := by decide +kernel
theorem d_Mo_run_110 : decode b_Mo_run 110 = .ok (.iload_n 2, 1) := by decide +kernel
theorem d_Mo_run_111 : decode b_Mo_run 111 = .ok (.ifCond .ne 5, 3) := by decide +kernel
theorem d_Mo_run_114 : decode b_Mo_run 114 = .ok (.iconst 2, 1) := by decide +kernel
theorem d_Mo_run_115 : decode b_Mo_run 115 = .ok (.ireturn, 1) := by decide +kernel
theorem d_Mo_run_116 : decode b_Mo_run 116 = .ok (.iinc 2 (-1), 3) := by decide +kernel
theorem d_Mo_run_119 : decode b_Mo_run 119 = .ok (.aload_n 0, 1) := by decide +kernel
theorem d_Mo_run_120 : decode b_Mo_run 120 = .ok (.dup, 1) := by decide +kernel
theorem d_Mo_run_121 : decode b_Mo_run 121 = .ok (.getfield 77, 3) := by decide +kernel
theorem d_Mo_run_124 : decode b_Mo_run 124 = .ok (.iconst 1, 1) := by decide +kernel
theorem d_Mo_run_125 : decode b_Mo_run 125 = .ok (.iadd, 1) := by decide +kernel
theorem d_Mo_run_126 : decode b_Mo_run 126 = .ok (.putfield 77, 3) := by decide +kernel
theorem d_Mo_run_129 : decode b_Mo_run 129 = .ok (.aload_n 0, 1) := by decide +kernel
theorem d_Mo_run_130 : decode b_Mo_run 130 = .ok (.getfield 41, 3) := by decide +kernel
theorem d_Mo_run_133 : decode b_Mo_run 133 = .ok (.aload_n 0, 1) := by decide +kernel
theorem d_Mo_run_134 : decode b_Mo_run 134 = .ok (.getfield 67, 3) := by decide +kernel
theorem d_Mo_run_137 : decode b_Mo_run 137 = .ok (.aload_n 0, 1) := by decide +kernel
theorem d_Mo_run_138 : decode b_Mo_run 138 = .ok (.getfield 38, 3) := by decide +kernel
theorem d_Mo_run_141 : decode b_Mo_run 141 = .ok (.aload_n 0, 1) := by decide +kernel
theorem d_Mo_run_142 : decode b_Mo_run 142 = .ok (.getfield 67, 3) := by decide +kernel
theorem d_Mo_run_145 : decode b_Mo_run 145 = .ok (.iaload, 1) := by decide +kernel
theorem d_Mo_run_146 : decode b_Mo_run 146 = .ok (.iastore, 1) := by decide +kernel
theorem d_Mo_run_147 : decode b_Mo_run 147 = .ok (.aload_n 0, 1) := by decide +kernel
theorem d_Mo_run_148 : decode b_Mo_run 148 = .ok (.aload_n 0, 1) := by decide +kernel
theorem d_Mo_run_149 : decode b_Mo_run 149 = .ok (.getfield 67, 3) := by decide +kernel
theorem d_Mo_run_152 : decode b_Mo_run 152 = .ok (.iconst 1, 1) := by decide +kernel
theorem d_Mo_run_153 : decode b_Mo_run 153 = .ok (.iadd, 1) := by decide +kernel
theorem d_Mo_run_154 : decode b_Mo_run 154 = .ok (.invokevirtual 122, 3) := by decide +kernel
theorem d_Mo_run_157 : decode b_Mo_run 157 = .ok (.ifCond .eq 19, 3) := by decide +kernel
theorem d_Mo_run_160 : decode b_Mo_run 160 = .ok (.aload_n 0, 1) := by decide +kernel
theorem d_Mo_run_161 : decode b_Mo_run 161 = .ok (.getfield 38, 3) := by decide +kernel
theorem d_Mo_run_164 : decode b_Mo_run 164 = .ok (.aload_n 0, 1) := by decide +kernel
theorem d_Mo_run_165 : decode b_Mo_run 165 = .ok (.getfield 67, 3) := by decide +kernel
theorem d_Mo_run_168 : decode b_Mo_run 168 = .ok (.dup2, 1) := by decide +kernel
theorem d_Mo_run_169 : decode b_Mo_run 169 = .ok (.iaload, 1) := by decide +kernel
theorem d_Mo_run_170 : decode b_Mo_run 170 = .ok (.iconst 1, 1) := by decide +kernel
theorem d_Mo_run_171 : decode b_Mo_run 171 = .ok (.isub, 1) := by decide +kernel
theorem d_Mo_run_172 : decode b_Mo_run 172 = .ok (.iastore, 1) := by decide +kernel
theorem d_Mo_run_173 : decode b_Mo_run 173 = .ok (.goto (-123), 3) := by decide +kernel
theorem d_Mo_run_176 : decode b_Mo_run 176 = .ok (.aload_n 0, 1) := by decide +kernel
theorem d_Mo_run_177 : decode b_Mo_run 177 = .ok (.getfield 67, 3) := by decide +kernel
theorem d_Mo_run_180 : decode b_Mo_run 180 = .ok (.aload_n 0, 1) := by decide +kernel
theorem d_Mo_run_181 : decode b_Mo_run 181 = .ok (.getfield 57, 3) := by decide +kernel
theorem d_Mo_run_184 : decode b_Mo_run 184 = .ok (.iconst 1, 1) := by decide +kernel
theorem d_Mo_run_185 : decode b_Mo_run 185 = .ok (.isub, 1) := by decide +kernel
theorem d_Mo_run_186 : decode b_Mo_run 186 = .ok (.if_icmp .ne 23, 3) := by decide +kernel
theorem d_Mo_run_189 : decode b_Mo_run 189 = .ok (.aload_n 0, 1) := by decide +kernel
theorem d_Mo_run_190 : decode b_Mo_run 190 = .ok (.invokevirtual 125, 3) := by decide +kernel
theorem d_Mo_run_193 : decode b_Mo_run 193 = .ok (.aload_n 0, 1) := by decide +kernel
theorem d_Mo_run_194 : decode b_Mo_run 194 = .ok (.getfield 38, 3) := by decide +kernel
theorem d_Mo_run_197 : decode b_Mo_run 197 = .ok (.aload_n 0, 1) := by decide +kernel
theorem d_Mo_run_198 : decode b_Mo_run 198 = .ok (.getfield 67, 3) := by decide +kernel
theorem d_Mo_run_201 : decode b_Mo_run 201 = .ok (.dup2, 1) := by decide +kernel
theorem d_Mo_run_202 : decode b_Mo_run 202 = .ok (.iaload, 1) := by decide +kernel
theorem d_Mo_run_203 : decode b_Mo_run 203 = .ok (.iconst 1, 1) := by decide +kernel
theorem d_Mo_run_204 : decode b_Mo_run 204 = .ok (.isub, 1) := by decide +kernel
theorem d_Mo_run_205 : decode b_Mo_run 205 = .ok (.iastore, 1) := by decide +kernel
theorem d_Mo_run_206 : decode b_Mo_run 206 = .ok (.goto (-156), 3) := by decide +kernel
theorem d_Mo_run_209 : decode b_Mo_run 209 = .ok (.aload_n 0, 1) := by decide +kernel
theorem d_Mo_run_210 : decode b_Mo_run 210 = .ok (.dup, 1) := by decide +kernel
theorem d_Mo_run_211 : decode b_Mo_run 211 = .ok (.getfield 67, 3) := by decide +kernel
theorem d_Mo_run_214 : decode b_Mo_run 214 = .ok (.iconst 1, 1) := by decide +kernel
theorem d_Mo_run_215 : decode b_Mo_run 215 = .ok (.iadd, 1) := by decide +kernel
theorem d_Mo_run_216 : decode b_Mo_run 216 = .ok (.putfield 67, 3) := by decide +kernel
theorem d_Mo_run_219 : decode b_Mo_run 219 = .ok (.aload_n 0, 1) := by decide +kernel
theorem d_Mo_run_220 : decode b_Mo_run 220 = .ok (.getfield 38, 3) := by decide +kernel
theorem d_Mo_run_223 : decode b_Mo_run 223 = .ok (.aload_n 0, 1) := by decide +kernel
theorem d_Mo_run_224 : decode b_Mo_run 224 = .ok (.getfield 67, 3) := by decide +kernel
theorem d_Mo_run_227 : decode b_Mo_run 227 = .ok (.aload_n 0, 1) := by decide +kernel
theorem d_Mo_run_228 : decode b_Mo_run 228 = .ok (.getfield 13, 3) := by decide +kernel
theorem d_Mo_run_231 : decode b_Mo_run 231 = .ok (.aload_n 0, 1) := by decide +kernel
theorem d_Mo_run_232 : decode b_Mo_run 232 = .ok (.getfield 67, 3) := by decide +kernel
theorem d_Mo_run_235 : decode b_Mo_run 235 = .ok (.iaload, 1) := by decide +kernel
theorem d_Mo_run_236 : decode b_Mo_run 236 = .ok (.iastore, 1) := by decide +kernel
theorem d_Mo_run_237 : decode b_Mo_run 237 = .ok (.goto (-187), 3) := by decide +kernel
theorem d_Mo_run_240 : decode b_Mo_run 240 = .ok (.aload_n 0, 1) := by decide +kernel
theorem d_Mo_run_241 : decode b_Mo_run 241 = .ok (.getfield 74, 3) := by decide +kernel
theorem d_Mo_run_244 : decode b_Mo_run 244 = .ok (.ifCond .eq 7, 3) := by decide +kernel
theorem d_Mo_run_247 : decode b_Mo_run 247 = .ok (.iconst 0, 1) := by decide +kernel
theorem d_Mo_run_248 : decode b_Mo_run 248 = .ok (.goto 4, 3) := by decide +kernel
theorem d_Mo_run_251 : decode b_Mo_run 251 = .ok (.iconst 1, 1) := by decide +kernel
theorem d_Mo_run_252 : decode b_Mo_run 252 = .ok (.ireturn, 1) := by decide +kernel
abbrev b_Mo_told : ByteArray := prog_8_method_22_code
def y_Mo_told : MethodName := ⟨RMo, "told", "(I)I"⟩
theorem k_Mo_told : Cond.code y_Mo_told b_Mo_told 2 (some .int) ∈ tt := (tt4 62 rfl rfl)
theorem i_Mo_told : Cond.instanceMethod y_Mo_told ∈ tt := (tt4 60 rfl rfl)
theorem l_Mo_told : Cond.selects RMo y_Mo_told y_Mo_told ∈ tt := (tt4 61 rfl rfl)
theorem d_Mo_told_0 : decode b_Mo_told 0 = .ok (.aload_n 0, 1) := by decide +kernel
theorem d_Mo_told_1 : decode b_Mo_told 1 = .ok (.iload_n 1, 1) := by decide +kernel
theorem d_Mo_told_2 : decode b_Mo_told 2 = .ok (.iconst 0, 1) := by decide +kernel
theorem d_Mo_told_3 : decode b_Mo_told 3 = .ok (.iconst 1, 1) := by decide +kernel
theorem d_Mo_told_4 : decode b_Mo_told 4 = .ok (.invokestatic 60, 3) := by decide +kernel
theorem d_Mo_told_7 : decode b_Mo_told 7 = .ok (.iload_n 1, 1) := by decide +kernel
theorem d_Mo_told_8 : decode b_Mo_told 8 = .ok (.iconst 1, 1) := by decide +kernel
theorem d_Mo_told_9 : decode b_Mo_told 9 = .ok (.if_icmp .eq 10, 3) := by decide +kernel
theorem d_Mo_told_12 : decode b_Mo_told 12 = .ok (.aload_n 0, 1) := by decide +kernel
theorem d_Mo_told_13 : decode b_Mo_told 13 = .ok (.getfield 74, 3) := by decide +kernel
theorem d_Mo_told_16 : decode b_Mo_told 16 = .ok (.ifCond .eq 7, 3) := by decide +kernel
theorem d_Mo_told_19 : decode b_Mo_told 19 = .ok (.iconst 1, 1) := by decide +kernel
theorem d_Mo_told_20 : decode b_Mo_told 20 = .ok (.goto 4, 3) := by decide +kernel
theorem d_Mo_told_23 : decode b_Mo_told 23 = .ok (.iconst 0, 1) := by decide +kernel
theorem d_Mo_told_24 : decode b_Mo_told 24 = .ok (.invokevirtual 80, 3) := by decide +kernel
theorem d_Mo_told_27 : decode b_Mo_told 27 = .ok (.ifCond .ne 5, 3) := by decide +kernel
theorem d_Mo_told_30 : decode b_Mo_told 30 = .ok (.iconst 0, 1) := by decide +kernel
theorem d_Mo_told_31 : decode b_Mo_told 31 = .ok (.ireturn, 1) := by decide +kernel
theorem d_Mo_told_32 : decode b_Mo_told 32 = .ok (.iload_n 1, 1) := by decide +kernel
theorem d_Mo_told_33 : decode b_Mo_told 33 = .ok (.ifCond .ne 10, 3) := by decide +kernel
theorem d_Mo_told_36 : decode b_Mo_told 36 = .ok (.aload_n 0, 1) := by decide +kernel
theorem d_Mo_told_37 : decode b_Mo_told 37 = .ok (.getfield 114, 3) := by decide +kernel
theorem d_Mo_told_40 : decode b_Mo_told 40 = .ok (.goto 7, 3) := by decide +kernel
theorem d_Mo_told_43 : decode b_Mo_told 43 = .ok (.aload_n 0, 1) := by decide +kernel
theorem d_Mo_told_44 : decode b_Mo_told 44 = .ok (.getfield 77, 3) := by decide +kernel
theorem d_Mo_told_47 : decode b_Mo_told 47 = .ok (.ireturn, 1) := by decide +kernel
abbrev b_Mo_value : ByteArray := prog_8_method_23_code
def y_Mo_value : MethodName := ⟨RMo, "value", "(I)I"⟩
theorem k_Mo_value : Cond.code y_Mo_value b_Mo_value 2 (some .int) ∈ tt := (tt4 66 rfl rfl)
theorem i_Mo_value : Cond.instanceMethod y_Mo_value ∈ tt := (tt4 64 rfl rfl)
theorem l_Mo_value : Cond.selects RMo y_Mo_value y_Mo_value ∈ tt := (tt4 65 rfl rfl)
theorem d_Mo_value_0 : decode b_Mo_value 0 = .ok (.aload_n 0, 1) := by decide +kernel
theorem d_Mo_value_1 : decode b_Mo_value 1 = .ok (.aload_n 0, 1) := by decide +kernel
theorem d_Mo_value_2 : decode b_Mo_value 2 = .ok (.iload_n 1, 1) := by decide +kernel
theorem d_Mo_value_3 : decode b_Mo_value 3 = .ok (.invokevirtual 94, 3) := by decide +kernel
theorem d_Mo_value_6 : decode b_Mo_value 6 = .ok (.aload_n 0, 1) := by decide +kernel
theorem d_Mo_value_7 : decode b_Mo_value 7 = .ok (.getfield 74, 3) := by decide +kernel
theorem d_Mo_value_10 : decode b_Mo_value 10 = .ok (.invokevirtual 80, 3) := by decide +kernel
theorem d_Mo_value_13 : decode b_Mo_value 13 = .ok (.ifCond .ne 5, 3) := by decide +kernel
theorem d_Mo_value_16 : decode b_Mo_value 16 = .ok (.iconst 0, 1) := by decide +kernel
theorem d_Mo_value_17 : decode b_Mo_value 17 = .ok (.ireturn, 1) := by decide +kernel
theorem d_Mo_value_18 : decode b_Mo_value 18 = .ok (.aload_n 0, 1) := by decide +kernel
theorem d_Mo_value_19 : decode b_Mo_value 19 = .ok (.getfield 44, 3) := by decide +kernel
theorem d_Mo_value_22 : decode b_Mo_value 22 = .ok (.iload_n 1, 1) := by decide +kernel
theorem d_Mo_value_23 : decode b_Mo_value 23 = .ok (.iaload, 1) := by decide +kernel
theorem d_Mo_value_24 : decode b_Mo_value 24 = .ok (.ireturn, 1) := by decide +kernel
abbrev b_Mo_multiplier : ByteArray := prog_8_method_24_code
def y_Mo_multiplier : MethodName := ⟨RMo, "multiplier", "(II)V"⟩
theorem k_Mo_multiplier : Cond.code y_Mo_multiplier b_Mo_multiplier 4 none ∈ tt := (tt4 70 rfl rfl)
theorem i_Mo_multiplier : Cond.instanceMethod y_Mo_multiplier ∈ tt := (tt4 68 rfl rfl)
theorem l_Mo_multiplier : Cond.selects RMo y_Mo_multiplier y_Mo_multiplier ∈ tt := (tt4 69 rfl rfl)
theorem d_Mo_multiplier_0 : decode b_Mo_multiplier 0 = .ok (.iload_n 1, 1) := by decide +kernel
theorem d_Mo_multiplier_1 : decode b_Mo_multiplier 1 = .ok (.iconst 0, 1) := by decide +kernel
theorem d_Mo_multiplier_2 : decode b_Mo_multiplier 2 = .ok (.aload_n 0, 1) := by decide +kernel
theorem d_Mo_multiplier_3 : decode b_Mo_multiplier 3 = .ok (.getfield 64, 3) := by decide +kernel
theorem d_Mo_multiplier_6 : decode b_Mo_multiplier 6 = .ok (.aload_n 0, 1) := by decide +kernel
theorem d_Mo_multiplier_7 : decode b_Mo_multiplier 7 = .ok (.getfield 97, 3) := by decide +kernel
theorem d_Mo_multiplier_10 : decode b_Mo_multiplier 10 = .ok (.iadd, 1) := by decide +kernel
theorem d_Mo_multiplier_11 : decode b_Mo_multiplier 11 = .ok (.iconst 1, 1) := by decide +kernel
theorem d_Mo_multiplier_12 : decode b_Mo_multiplier 12 = .ok (.isub, 1) := by decide +kernel
theorem d_Mo_multiplier_13 : decode b_Mo_multiplier 13 = .ok (.invokestatic 60, 3) := by decide +kernel
theorem d_Mo_multiplier_16 : decode b_Mo_multiplier 16 = .ok (.istore_n 3, 1) := by decide +kernel
theorem d_Mo_multiplier_17 : decode b_Mo_multiplier 17 = .ok (.aload_n 0, 1) := by decide +kernel
theorem d_Mo_multiplier_18 : decode b_Mo_multiplier 18 = .ok (.iload_n 3, 1) := by decide +kernel
theorem d_Mo_multiplier_19 : decode b_Mo_multiplier 19 = .ok (.iload_n 3, 1) := by decide +kernel
theorem d_Mo_multiplier_20 : decode b_Mo_multiplier 20 = .ok (.ifCond .eq 38, 3) := by decide +kernel
theorem d_Mo_multiplier_23 : decode b_Mo_multiplier 23 = .ok (.aload_n 0, 1) := by decide +kernel
theorem d_Mo_multiplier_24 : decode b_Mo_multiplier 24 = .ok (.iload_n 1, 1) := by decide +kernel
theorem d_Mo_multiplier_25 : decode b_Mo_multiplier 25 = .ok (.invokevirtual 104, 3) := by decide +kernel
theorem d_Mo_multiplier_28 : decode b_Mo_multiplier 28 = .ok (.ifCond .ne 16, 3) := by decide +kernel
theorem d_Mo_multiplier_31 : decode b_Mo_multiplier 31 = .ok (.iload_n 2, 1) := by decide +kernel
theorem d_Mo_multiplier_32 : decode b_Mo_multiplier 32 = .ok (.iconst 0, 1) := by decide +kernel
theorem d_Mo_multiplier_33 : decode b_Mo_multiplier 33 = .ok (.ldc 128, 2) := by decide +kernel
theorem d_Mo_multiplier_35 : decode b_Mo_multiplier 35 = .ok (.invokestatic 60, 3) := by decide +kernel
theorem d_Mo_multiplier_38 : decode b_Mo_multiplier 38 = .ok (.ifCond .eq 20, 3) := by decide +kernel
theorem d_Mo_multiplier_41 : decode b_Mo_multiplier 41 = .ok (.goto 13, 3) := by decide +kernel
theorem d_Mo_multiplier_44 : decode b_Mo_multiplier 44 = .ok (.iload_n 2, 1) := by decide +kernel
theorem d_Mo_multiplier_45 : decode b_Mo_multiplier 45 = .ok (.ldc 129, 2) := by decide +kernel
theorem d_Mo_multiplier_47 : decode b_Mo_multiplier 47 = .ok (.iconst 0, 1) := by decide +kernel
theorem d_Mo_multiplier_48 : decode b_Mo_multiplier 48 = .ok (.invokestatic 60, 3) := by decide +kernel
theorem d_Mo_multiplier_51 : decode b_Mo_multiplier 51 = .ok (.ifCond .eq 7, 3) := by decide +kernel
theorem d_Mo_multiplier_54 : decode b_Mo_multiplier 54 = .ok (.iconst 1, 1) := by decide +kernel
theorem d_Mo_multiplier_55 : decode b_Mo_multiplier 55 = .ok (.goto 4, 3) := by decide +kernel
theorem d_Mo_multiplier_58 : decode b_Mo_multiplier 58 = .ok (.iconst 0, 1) := by decide +kernel
theorem d_Mo_multiplier_59 : decode b_Mo_multiplier 59 = .ok (.invokevirtual 80, 3) := by decide +kernel
theorem d_Mo_multiplier_62 : decode b_Mo_multiplier 62 = .ok (.ifCond .eq 10, 3) := by decide +kernel
theorem d_Mo_multiplier_65 : decode b_Mo_multiplier 65 = .ok (.aload_n 0, 1) := by decide +kernel
theorem d_Mo_multiplier_66 : decode b_Mo_multiplier 66 = .ok (.getfield 31, 3) := by decide +kernel
theorem d_Mo_multiplier_69 : decode b_Mo_multiplier 69 = .ok (.iload_n 1, 1) := by decide +kernel
theorem d_Mo_multiplier_70 : decode b_Mo_multiplier 70 = .ok (.iload_n 2, 1) := by decide +kernel
theorem d_Mo_multiplier_71 : decode b_Mo_multiplier 71 = .ok (.iastore, 1) := by decide +kernel
theorem d_Mo_multiplier_72 : decode b_Mo_multiplier 72 = .ok (.return_, 1) := by decide +kernel
abbrev b_Mo_certificate : ByteArray := prog_8_method_25_code
def y_Mo_certificate : MethodName := ⟨RMo, "certificate", "()J"⟩
theorem k_Mo_certificate : Cond.code y_Mo_certificate b_Mo_certificate 7 (some .long) ∈ tt := (tt4 76 rfl rfl)
theorem i_Mo_certificate : Cond.instanceMethod y_Mo_certificate ∈ tt := (tt4 74 rfl rfl)
theorem l_Mo_certificate : Cond.selects RMo y_Mo_certificate y_Mo_certificate ∈ tt := (tt4 75 rfl rfl)
theorem d_Mo_certificate_0 : decode b_Mo_certificate 0 = .ok (.aload_n 0, 1) := by decide +kernel
theorem d_Mo_certificate_1 : decode b_Mo_certificate 1 = .ok (.iconst 0, 1) := by decide +kernel
theorem d_Mo_certificate_2 : decode b_Mo_certificate 2 = .ok (.putfield 53, 3) := by decide +kernel
theorem d_Mo_certificate_5 : decode b_Mo_certificate 5 = .ok (.lconst 0, 1) := by decide +kernel
theorem d_Mo_certificate_6 : decode b_Mo_certificate 6 = .ok (.lstore_n 1, 1) := by decide +kernel
theorem d_Mo_certificate_7 : decode b_Mo_certificate 7 = .ok (.iconst 0, 1) := by decide +kernel
theorem d_Mo_certificate_8 : decode b_Mo_certificate 8 = .ok (.istore_n 3, 1) := by decide +kernel
theorem d_Mo_certificate_9 : decode b_Mo_certificate 9 = .ok (.iload_n 3, 1) := by decide +kernel
theorem d_Mo_certificate_10 : decode b_Mo_certificate 10 = .ok (.aload_n 0, 1) := by decide +kernel
theorem d_Mo_certificate_11 : decode b_Mo_certificate 11 = .ok (.getfield 64, 3) := by decide +kernel
theorem d_Mo_certificate_14 : decode b_Mo_certificate 14 = .ok (.aload_n 0, 1) := by decide +kernel
theorem d_Mo_certificate_15 : decode b_Mo_certificate 15 = .ok (.getfield 97, 3) := by decide +kernel
theorem d_Mo_certificate_18 : decode b_Mo_certificate 18 = .ok (.iadd, 1) := by decide +kernel
theorem d_Mo_certificate_19 : decode b_Mo_certificate 19 = .ok (.if_icmp .ge 26, 3) := by decide +kernel
theorem d_Mo_certificate_22 : decode b_Mo_certificate 22 = .ok (.lload_n 1, 1) := by decide +kernel
theorem d_Mo_certificate_23 : decode b_Mo_certificate 23 = .ok (.aload_n 0, 1) := by decide +kernel
theorem d_Mo_certificate_24 : decode b_Mo_certificate 24 = .ok (.getfield 31, 3) := by decide +kernel
theorem d_Mo_certificate_27 : decode b_Mo_certificate 27 = .ok (.iload_n 3, 1) := by decide +kernel
theorem d_Mo_certificate_28 : decode b_Mo_certificate 28 = .ok (.iaload, 1) := by decide +kernel
theorem d_Mo_certificate_29 : decode b_Mo_certificate 29 = .ok (.i2l, 1) := by decide +kernel
theorem d_Mo_certificate_30 : decode b_Mo_certificate 30 = .ok (.aload_n 0, 1) := by decide +kernel
theorem d_Mo_certificate_31 : decode b_Mo_certificate 31 = .ok (.iload_n 3, 1) := by decide +kernel
theorem d_Mo_certificate_32 : decode b_Mo_certificate 32 = .ok (.invokevirtual 108, 3) := by decide +kernel
theorem d_Mo_certificate_35 : decode b_Mo_certificate 35 = .ok (.i2l, 1) := by decide +kernel
theorem d_Mo_certificate_36 : decode b_Mo_certificate 36 = .ok (.lmul, 1) := by decide +kernel
theorem d_Mo_certificate_37 : decode b_Mo_certificate 37 = .ok (.ladd, 1) := by decide +kernel
theorem d_Mo_certificate_38 : decode b_Mo_certificate 38 = .ok (.lstore_n 1, 1) := by decide +kernel
theorem d_Mo_certificate_39 : decode b_Mo_certificate 39 = .ok (.iinc 3 1, 3) := by decide +kernel
theorem d_Mo_certificate_42 : decode b_Mo_certificate 42 = .ok (.goto (-33), 3) := by decide +kernel
theorem d_Mo_certificate_45 : decode b_Mo_certificate 45 = .ok (.iconst 0, 1) := by decide +kernel
theorem d_Mo_certificate_46 : decode b_Mo_certificate 46 = .ok (.istore_n 3, 1) := by decide +kernel
theorem d_Mo_certificate_47 : decode b_Mo_certificate 47 = .ok (.iload_n 3, 1) := by decide +kernel
theorem d_Mo_certificate_48 : decode b_Mo_certificate 48 = .ok (.aload_n 0, 1) := by decide +kernel
theorem d_Mo_certificate_49 : decode b_Mo_certificate 49 = .ok (.getfield 57, 3) := by decide +kernel
theorem d_Mo_certificate_52 : decode b_Mo_certificate 52 = .ok (.if_icmp .ge 87, 3) := by decide +kernel
theorem d_Mo_certificate_55 : decode b_Mo_certificate 55 = .ok (.ldc2_w 130, 3) := by decide +kernel
theorem d_Mo_certificate_58 : decode b_Mo_certificate 58 = .ok (.aload_n 0, 1) := by decide +kernel
theorem d_Mo_certificate_59 : decode b_Mo_certificate 59 = .ok (.getfield 7, 3) := by decide +kernel
theorem d_Mo_certificate_62 : decode b_Mo_certificate 62 = .ok (.iload_n 3, 1) := by decide +kernel
theorem d_Mo_certificate_63 : decode b_Mo_certificate 63 = .ok (.iaload, 1) := by decide +kernel
theorem d_Mo_certificate_64 : decode b_Mo_certificate 64 = .ok (.i2l, 1) := by decide +kernel
theorem d_Mo_certificate_65 : decode b_Mo_certificate 65 = .ok (.lmul, 1) := by decide +kernel
theorem d_Mo_certificate_66 : decode b_Mo_certificate 66 = .ok (.lstore 4, 2) := by decide +kernel
theorem d_Mo_certificate_68 : decode b_Mo_certificate 68 = .ok (.iconst 0, 1) := by decide +kernel
theorem d_Mo_certificate_69 : decode b_Mo_certificate 69 = .ok (.istore 6, 2) := by decide +kernel
theorem d_Mo_certificate_71 : decode b_Mo_certificate 71 = .ok (.iload 6, 2) := by decide +kernel
theorem d_Mo_certificate_73 : decode b_Mo_certificate 73 = .ok (.aload_n 0, 1) := by decide +kernel
theorem d_Mo_certificate_74 : decode b_Mo_certificate 74 = .ok (.getfield 64, 3) := by decide +kernel
theorem d_Mo_certificate_77 : decode b_Mo_certificate 77 = .ok (.aload_n 0, 1) := by decide +kernel
theorem d_Mo_certificate_78 : decode b_Mo_certificate 78 = .ok (.getfield 97, 3) := by decide +kernel
theorem d_Mo_certificate_81 : decode b_Mo_certificate 81 = .ok (.iadd, 1) := by decide +kernel
theorem d_Mo_certificate_82 : decode b_Mo_certificate 82 = .ok (.if_icmp .ge 31, 3) := by decide +kernel
theorem d_Mo_certificate_85 : decode b_Mo_certificate 85 = .ok (.lload 4, 2) := by decide +kernel
theorem d_Mo_certificate_87 : decode b_Mo_certificate 87 = .ok (.aload_n 0, 1) := by decide +kernel
theorem d_Mo_certificate_88 : decode b_Mo_certificate 88 = .ok (.getfield 31, 3) := by decide +kernel
theorem d_Mo_certificate_91 : decode b_Mo_certificate 91 = .ok (.iload 6, 2) := by decide +kernel
theorem d_Mo_certificate_93 : decode b_Mo_certificate 93 = .ok (.iaload, 1) := by decide +kernel
theorem d_Mo_certificate_94 : decode b_Mo_certificate 94 = .ok (.i2l, 1) := by decide +kernel
theorem d_Mo_certificate_95 : decode b_Mo_certificate 95 = .ok (.aload_n 0, 1) := by decide +kernel
theorem d_Mo_certificate_96 : decode b_Mo_certificate 96 = .ok (.iload 6, 2) := by decide +kernel
theorem d_Mo_certificate_98 : decode b_Mo_certificate 98 = .ok (.iload_n 3, 1) := by decide +kernel
theorem d_Mo_certificate_99 : decode b_Mo_certificate 99 = .ok (.invokevirtual 100, 3) := by decide +kernel
theorem d_Mo_certificate_102 : decode b_Mo_certificate 102 = .ok (.i2l, 1) := by decide +kernel
theorem d_Mo_certificate_103 : decode b_Mo_certificate 103 = .ok (.lmul, 1) := by decide +kernel
theorem d_Mo_certificate_104 : decode b_Mo_certificate 104 = .ok (.lsub, 1) := by decide +kernel
theorem d_Mo_certificate_105 : decode b_Mo_certificate 105 = .ok (.lstore 4, 2) := by decide +kernel
theorem d_Mo_certificate_107 : decode b_Mo_certificate 107 = .ok (.iinc 6 1, 3) := by decide +kernel
theorem d_Mo_certificate_110 : decode b_Mo_certificate 110 = .ok (.goto (-39), 3) := by decide +kernel
theorem d_Mo_certificate_113 : decode b_Mo_certificate 113 = .ok (.lload 4, 2) := by decide +kernel
theorem d_Mo_certificate_115 : decode b_Mo_certificate 115 = .ok (.lconst 0, 1) := by decide +kernel
theorem d_Mo_certificate_116 : decode b_Mo_certificate 116 = .ok (.lcmp, 1) := by decide +kernel
theorem d_Mo_certificate_117 : decode b_Mo_certificate 117 = .ok (.ifCond .le 16, 3) := by decide +kernel
theorem d_Mo_certificate_120 : decode b_Mo_certificate 120 = .ok (.lload_n 1, 1) := by decide +kernel
theorem d_Mo_certificate_121 : decode b_Mo_certificate 121 = .ok (.lload 4, 2) := by decide +kernel
theorem d_Mo_certificate_123 : decode b_Mo_certificate 123 = .ok (.aload_n 0, 1) := by decide +kernel
theorem d_Mo_certificate_124 : decode b_Mo_certificate 124 = .ok (.getfield 13, 3) := by decide +kernel
theorem d_Mo_certificate_127 : decode b_Mo_certificate 127 = .ok (.iload_n 3, 1) := by decide +kernel
theorem d_Mo_certificate_128 : decode b_Mo_certificate 128 = .ok (.iaload, 1) := by decide +kernel
theorem d_Mo_certificate_129 : decode b_Mo_certificate 129 = .ok (.i2l, 1) := by decide +kernel
theorem d_Mo_certificate_130 : decode b_Mo_certificate 130 = .ok (.lmul, 1) := by decide +kernel
theorem d_Mo_certificate_131 : decode b_Mo_certificate 131 = .ok (.ladd, 1) := by decide +kernel
theorem d_Mo_certificate_132 : decode b_Mo_certificate 132 = .ok (.lstore_n 1, 1) := by decide +kernel
theorem d_Mo_certificate_133 : decode b_Mo_certificate 133 = .ok (.iinc 3 1, 3) := by decide +kernel
theorem d_Mo_certificate_136 : decode b_Mo_certificate 136 = .ok (.goto (-89), 3) := by decide +kernel
theorem d_Mo_certificate_139 : decode b_Mo_certificate 139 = .ok (.lload_n 1, 1) := by decide +kernel
theorem d_Mo_certificate_140 : decode b_Mo_certificate 140 = .ok (.ldc2_w 130, 3) := by decide +kernel
theorem d_Mo_certificate_143 : decode b_Mo_certificate 143 = .ok (.ldiv, 1) := by decide +kernel
theorem d_Mo_certificate_144 : decode b_Mo_certificate 144 = .ok (.lstore_n 3, 1) := by decide +kernel
theorem d_Mo_certificate_145 : decode b_Mo_certificate 145 = .ok (.lload_n 3, 1) := by decide +kernel
theorem d_Mo_certificate_146 : decode b_Mo_certificate 146 = .ok (.ldc2_w 130, 3) := by decide +kernel
theorem d_Mo_certificate_149 : decode b_Mo_certificate 149 = .ok (.lmul, 1) := by decide +kernel
theorem d_Mo_certificate_150 : decode b_Mo_certificate 150 = .ok (.lload_n 1, 1) := by decide +kernel
theorem d_Mo_certificate_151 : decode b_Mo_certificate 151 = .ok (.lcmp, 1) := by decide +kernel
theorem d_Mo_certificate_152 : decode b_Mo_certificate 152 = .ok (.ifCond .le 9, 3) := by decide +kernel
theorem d_Mo_certificate_155 : decode b_Mo_certificate 155 = .ok (.lload_n 3, 1) := by decide +kernel
theorem d_Mo_certificate_156 : decode b_Mo_certificate 156 = .ok (.lconst 1, 1) := by decide +kernel
theorem d_Mo_certificate_157 : decode b_Mo_certificate 157 = .ok (.lsub, 1) := by decide +kernel
theorem d_Mo_certificate_158 : decode b_Mo_certificate 158 = .ok (.goto 4, 3) := by decide +kernel
theorem d_Mo_certificate_161 : decode b_Mo_certificate 161 = .ok (.lload_n 3, 1) := by decide +kernel
theorem d_Mo_certificate_162 : decode b_Mo_certificate 162 = .ok (.lreturn, 1) := by decide +kernel
abbrev b_Mo_contradiction : ByteArray := prog_8_method_26_code
def y_Mo_contradiction : MethodName := ⟨RMo, "contradiction", "()I"⟩
theorem k_Mo_contradiction : Cond.code y_Mo_contradiction b_Mo_contradiction 2 (some .int) ∈ tt := (tt4 81 rfl rfl)
theorem i_Mo_contradiction : Cond.instanceMethod y_Mo_contradiction ∈ tt := (tt4 79 rfl rfl)
theorem l_Mo_contradiction : Cond.selects RMo y_Mo_contradiction y_Mo_contradiction ∈ tt := (tt4 80 rfl rfl)
theorem d_Mo_contradiction_0 : decode b_Mo_contradiction 0 = .ok (.aload_n 0, 1) := by decide +kernel
theorem d_Mo_contradiction_1 : decode b_Mo_contradiction 1 = .ok (.iconst 0, 1) := by decide +kernel
theorem d_Mo_contradiction_2 : decode b_Mo_contradiction 2 = .ok (.putfield 53, 3) := by decide +kernel
theorem d_Mo_contradiction_5 : decode b_Mo_contradiction 5 = .ok (.iconst 0, 1) := by decide +kernel
theorem d_Mo_contradiction_6 : decode b_Mo_contradiction 6 = .ok (.istore_n 1, 1) := by decide +kernel
theorem d_Mo_contradiction_7 : decode b_Mo_contradiction 7 = .ok (.iload_n 1, 1) := by decide +kernel
theorem d_Mo_contradiction_8 : decode b_Mo_contradiction 8 = .ok (.aload_n 0, 1) := by decide +kernel
theorem d_Mo_contradiction_9 : decode b_Mo_contradiction 9 = .ok (.getfield 64, 3) := by decide +kernel
theorem d_Mo_contradiction_12 : decode b_Mo_contradiction 12 = .ok (.aload_n 0, 1) := by decide +kernel
theorem d_Mo_contradiction_13 : decode b_Mo_contradiction 13 = .ok (.getfield 97, 3) := by decide +kernel
theorem d_Mo_contradiction_16 : decode b_Mo_contradiction 16 = .ok (.iadd, 1) := by decide +kernel
theorem d_Mo_contradiction_17 : decode b_Mo_contradiction 17 = .ok (.if_icmp .ge 24, 3) := by decide +kernel
theorem d_Mo_contradiction_20 : decode b_Mo_contradiction 20 = .ok (.aload_n 0, 1) := by decide +kernel
theorem d_Mo_contradiction_21 : decode b_Mo_contradiction 21 = .ok (.iload_n 1, 1) := by decide +kernel
theorem d_Mo_contradiction_22 : decode b_Mo_contradiction 22 = .ok (.aload_n 0, 1) := by decide +kernel
theorem d_Mo_contradiction_23 : decode b_Mo_contradiction 23 = .ok (.getfield 41, 3) := by decide +kernel
theorem d_Mo_contradiction_26 : decode b_Mo_contradiction 26 = .ok (.iconst 0, 1) := by decide +kernel
theorem d_Mo_contradiction_27 : decode b_Mo_contradiction 27 = .ok (.invokevirtual 117, 3) := by decide +kernel
theorem d_Mo_contradiction_30 : decode b_Mo_contradiction 30 = .ok (.ifCond .ne 5, 3) := by decide +kernel
theorem d_Mo_contradiction_33 : decode b_Mo_contradiction 33 = .ok (.iload_n 1, 1) := by decide +kernel
theorem d_Mo_contradiction_34 : decode b_Mo_contradiction 34 = .ok (.ireturn, 1) := by decide +kernel
theorem d_Mo_contradiction_35 : decode b_Mo_contradiction 35 = .ok (.iinc 1 1, 3) := by decide +kernel
theorem d_Mo_contradiction_38 : decode b_Mo_contradiction 38 = .ok (.goto (-31), 3) := by decide +kernel
theorem d_Mo_contradiction_41 : decode b_Mo_contradiction 41 = .ok (.iconst (-1), 1) := by decide +kernel
theorem d_Mo_contradiction_42 : decode b_Mo_contradiction 42 = .ok (.ireturn, 1) := by decide +kernel
abbrev b_Mo_check : ByteArray := prog_8_method_27_code
def y_Mo_check : MethodName := ⟨RMo, "check", "(I)I"⟩
theorem k_Mo_check : Cond.code y_Mo_check b_Mo_check 3 (some .int) ∈ tt := (tt4 85 rfl rfl)
theorem i_Mo_check : Cond.instanceMethod y_Mo_check ∈ tt := (tt4 83 rfl rfl)
theorem l_Mo_check : Cond.selects RMo y_Mo_check y_Mo_check ∈ tt := (tt4 84 rfl rfl)
theorem d_Mo_check_0 : decode b_Mo_check 0 = .ok (.aload_n 0, 1) := by decide +kernel
theorem d_Mo_check_1 : decode b_Mo_check 1 = .ok (.iconst 0, 1) := by decide +kernel
theorem d_Mo_check_2 : decode b_Mo_check 2 = .ok (.putfield 53, 3) := by decide +kernel
theorem d_Mo_check_5 : decode b_Mo_check 5 = .ok (.iconst 0, 1) := by decide +kernel
theorem d_Mo_check_6 : decode b_Mo_check 6 = .ok (.istore_n 2, 1) := by decide +kernel
theorem d_Mo_check_7 : decode b_Mo_check 7 = .ok (.iload_n 2, 1) := by decide +kernel
theorem d_Mo_check_8 : decode b_Mo_check 8 = .ok (.aload_n 0, 1) := by decide +kernel
theorem d_Mo_check_9 : decode b_Mo_check 9 = .ok (.getfield 57, 3) := by decide +kernel
theorem d_Mo_check_12 : decode b_Mo_check 12 = .ok (.if_icmp .ge 43, 3) := by decide +kernel
theorem d_Mo_check_15 : decode b_Mo_check 15 = .ok (.aload_n 0, 1) := by decide +kernel
theorem d_Mo_check_16 : decode b_Mo_check 16 = .ok (.getfield 50, 3) := by decide +kernel
theorem d_Mo_check_19 : decode b_Mo_check 19 = .ok (.iload_n 2, 1) := by decide +kernel
theorem d_Mo_check_20 : decode b_Mo_check 20 = .ok (.iload_n 1, 1) := by decide +kernel
theorem d_Mo_check_21 : decode b_Mo_check 21 = .ok (.bipush 6, 2) := by decide +kernel
theorem d_Mo_check_23 : decode b_Mo_check 23 = .ok (.iload_n 2, 1) := by decide +kernel
theorem d_Mo_check_24 : decode b_Mo_check 24 = .ok (.imul, 1) := by decide +kernel
theorem d_Mo_check_25 : decode b_Mo_check 25 = .ok (.ishr, 1) := by decide +kernel
theorem d_Mo_check_26 : decode b_Mo_check 26 = .ok (.bipush 63, 2) := by decide +kernel
theorem d_Mo_check_28 : decode b_Mo_check 28 = .ok (.iand, 1) := by decide +kernel
theorem d_Mo_check_29 : decode b_Mo_check 29 = .ok (.iastore, 1) := by decide +kernel
theorem d_Mo_check_30 : decode b_Mo_check 30 = .ok (.aload_n 0, 1) := by decide +kernel
theorem d_Mo_check_31 : decode b_Mo_check 31 = .ok (.getfield 50, 3) := by decide +kernel
theorem d_Mo_check_34 : decode b_Mo_check 34 = .ok (.iload_n 2, 1) := by decide +kernel
theorem d_Mo_check_35 : decode b_Mo_check 35 = .ok (.iaload, 1) := by decide +kernel
theorem d_Mo_check_36 : decode b_Mo_check 36 = .ok (.aload_n 0, 1) := by decide +kernel
theorem d_Mo_check_37 : decode b_Mo_check 37 = .ok (.getfield 13, 3) := by decide +kernel
theorem d_Mo_check_40 : decode b_Mo_check 40 = .ok (.iload_n 2, 1) := by decide +kernel
theorem d_Mo_check_41 : decode b_Mo_check 41 = .ok (.iaload, 1) := by decide +kernel
theorem d_Mo_check_42 : decode b_Mo_check 42 = .ok (.if_icmp .le 7, 3) := by decide +kernel
theorem d_Mo_check_45 : decode b_Mo_check 45 = .ok (.iconst 1, 1) := by decide +kernel
theorem d_Mo_check_46 : decode b_Mo_check 46 = .ok (.iload_n 2, 1) := by decide +kernel
theorem d_Mo_check_47 : decode b_Mo_check 47 = .ok (.iadd, 1) := by decide +kernel
theorem d_Mo_check_48 : decode b_Mo_check 48 = .ok (.ireturn, 1) := by decide +kernel
theorem d_Mo_check_49 : decode b_Mo_check 49 = .ok (.iinc 2 1, 3) := by decide +kernel
theorem d_Mo_check_52 : decode b_Mo_check 52 = .ok (.goto (-45), 3) := by decide +kernel
theorem d_Mo_check_55 : decode b_Mo_check 55 = .ok (.iconst 0, 1) := by decide +kernel
theorem d_Mo_check_56 : decode b_Mo_check 56 = .ok (.istore_n 2, 1) := by decide +kernel
theorem d_Mo_check_57 : decode b_Mo_check 57 = .ok (.iload_n 2, 1) := by decide +kernel
theorem d_Mo_check_58 : decode b_Mo_check 58 = .ok (.aload_n 0, 1) := by decide +kernel
theorem d_Mo_check_59 : decode b_Mo_check 59 = .ok (.getfield 64, 3) := by decide +kernel
theorem d_Mo_check_62 : decode b_Mo_check 62 = .ok (.aload_n 0, 1) := by decide +kernel
theorem d_Mo_check_63 : decode b_Mo_check 63 = .ok (.getfield 97, 3) := by decide +kernel
theorem d_Mo_check_66 : decode b_Mo_check 66 = .ok (.iadd, 1) := by decide +kernel
theorem d_Mo_check_67 : decode b_Mo_check 67 = .ok (.if_icmp .ge 30, 3) := by decide +kernel
theorem d_Mo_check_70 : decode b_Mo_check 70 = .ok (.aload_n 0, 1) := by decide +kernel
theorem d_Mo_check_71 : decode b_Mo_check 71 = .ok (.iload_n 2, 1) := by decide +kernel
theorem d_Mo_check_72 : decode b_Mo_check 72 = .ok (.aload_n 0, 1) := by decide +kernel
theorem d_Mo_check_73 : decode b_Mo_check 73 = .ok (.getfield 50, 3) := by decide +kernel
theorem d_Mo_check_76 : decode b_Mo_check 76 = .ok (.aload_n 0, 1) := by decide +kernel
theorem d_Mo_check_77 : decode b_Mo_check 77 = .ok (.getfield 57, 3) := by decide +kernel
theorem d_Mo_check_80 : decode b_Mo_check 80 = .ok (.invokevirtual 117, 3) := by decide +kernel
theorem d_Mo_check_83 : decode b_Mo_check 83 = .ok (.ifCond .ne 8, 3) := by decide +kernel
theorem d_Mo_check_86 : decode b_Mo_check 86 = .ok (.bipush 101, 2) := by decide +kernel
theorem d_Mo_check_88 : decode b_Mo_check 88 = .ok (.iload_n 2, 1) := by decide +kernel
theorem d_Mo_check_89 : decode b_Mo_check 89 = .ok (.iadd, 1) := by decide +kernel
theorem d_Mo_check_90 : decode b_Mo_check 90 = .ok (.ireturn, 1) := by decide +kernel
theorem d_Mo_check_91 : decode b_Mo_check 91 = .ok (.iinc 2 1, 3) := by decide +kernel
theorem d_Mo_check_94 : decode b_Mo_check 94 = .ok (.goto (-37), 3) := by decide +kernel
theorem d_Mo_check_97 : decode b_Mo_check 97 = .ok (.iconst 0, 1) := by decide +kernel
theorem d_Mo_check_98 : decode b_Mo_check 98 = .ok (.ireturn, 1) := by decide +kernel
abbrev b_Mo_follow : ByteArray := prog_8_method_28_code
def y_Mo_follow : MethodName := ⟨RMo, "follow", "(II)I"⟩
theorem k_Mo_follow : Cond.code y_Mo_follow b_Mo_follow 4 (some .int) ∈ tt := (tt4 89 rfl rfl)
theorem i_Mo_follow : Cond.instanceMethod y_Mo_follow ∈ tt := (tt4 87 rfl rfl)
theorem l_Mo_follow : Cond.selects RMo y_Mo_follow y_Mo_follow ∈ tt := (tt4 88 rfl rfl)
theorem d_Mo_follow_0 : decode b_Mo_follow 0 = .ok (.aload_n 0, 1) := by decide +kernel
theorem d_Mo_follow_1 : decode b_Mo_follow 1 = .ok (.iload_n 1, 1) := by decide +kernel
theorem d_Mo_follow_2 : decode b_Mo_follow 2 = .ok (.invokevirtual 94, 3) := by decide +kernel
theorem d_Mo_follow_5 : decode b_Mo_follow 5 = .ok (.ifCond .eq 20, 3) := by decide +kernel
theorem d_Mo_follow_8 : decode b_Mo_follow 8 = .ok (.aload_n 0, 1) := by decide +kernel
theorem d_Mo_follow_9 : decode b_Mo_follow 9 = .ok (.iload_n 2, 1) := by decide +kernel
theorem d_Mo_follow_10 : decode b_Mo_follow 10 = .ok (.invokevirtual 94, 3) := by decide +kernel
theorem d_Mo_follow_13 : decode b_Mo_follow 13 = .ok (.ifCond .eq 12, 3) := by decide +kernel
theorem d_Mo_follow_16 : decode b_Mo_follow 16 = .ok (.iload_n 1, 1) := by decide +kernel
theorem d_Mo_follow_17 : decode b_Mo_follow 17 = .ok (.iload_n 2, 1) := by decide +kernel
theorem d_Mo_follow_18 : decode b_Mo_follow 18 = .ok (.if_icmp .eq 7, 3) := by decide +kernel
theorem d_Mo_follow_21 : decode b_Mo_follow 21 = .ok (.iconst 1, 1) := by decide +kernel
theorem d_Mo_follow_22 : decode b_Mo_follow 22 = .ok (.goto 4, 3) := by decide +kernel
theorem d_Mo_follow_25 : decode b_Mo_follow 25 = .ok (.iconst 0, 1) := by decide +kernel
theorem d_Mo_follow_26 : decode b_Mo_follow 26 = .ok (.istore_n 3, 1) := by decide +kernel
theorem d_Mo_follow_27 : decode b_Mo_follow 27 = .ok (.aload_n 0, 1) := by decide +kernel
theorem d_Mo_follow_28 : decode b_Mo_follow 28 = .ok (.iload_n 3, 1) := by decide +kernel
theorem d_Mo_follow_29 : decode b_Mo_follow 29 = .ok (.iload_n 3, 1) := by decide +kernel
theorem d_Mo_follow_30 : decode b_Mo_follow 30 = .ok (.ifCond .eq 29, 3) := by decide +kernel
theorem d_Mo_follow_33 : decode b_Mo_follow 33 = .ok (.aload_n 0, 1) := by decide +kernel
theorem d_Mo_follow_34 : decode b_Mo_follow 34 = .ok (.getfield 132, 3) := by decide +kernel
theorem d_Mo_follow_37 : decode b_Mo_follow 37 = .ok (.bipush 10, 2) := by decide +kernel
theorem d_Mo_follow_39 : decode b_Mo_follow 39 = .ok (.if_icmp .ge 20, 3) := by decide +kernel
theorem d_Mo_follow_42 : decode b_Mo_follow 42 = .ok (.aload_n 0, 1) := by decide +kernel
theorem d_Mo_follow_43 : decode b_Mo_follow 43 = .ok (.getfield 34, 3) := by decide +kernel
theorem d_Mo_follow_46 : decode b_Mo_follow 46 = .ok (.iconst 5, 1) := by decide +kernel
theorem d_Mo_follow_47 : decode b_Mo_follow 47 = .ok (.iload_n 1, 1) := by decide +kernel
theorem d_Mo_follow_48 : decode b_Mo_follow 48 = .ok (.imul, 1) := by decide +kernel
theorem d_Mo_follow_49 : decode b_Mo_follow 49 = .ok (.iload_n 2, 1) := by decide +kernel
theorem d_Mo_follow_50 : decode b_Mo_follow 50 = .ok (.iadd, 1) := by decide +kernel
theorem d_Mo_follow_51 : decode b_Mo_follow 51 = .ok (.baload, 1) := by decide +kernel
theorem d_Mo_follow_52 : decode b_Mo_follow 52 = .ok (.ifCond .ne 7, 3) := by decide +kernel
theorem d_Mo_follow_55 : decode b_Mo_follow 55 = .ok (.iconst 1, 1) := by decide +kernel
theorem d_Mo_follow_56 : decode b_Mo_follow 56 = .ok (.goto 4, 3) := by decide +kernel
theorem d_Mo_follow_59 : decode b_Mo_follow 59 = .ok (.iconst 0, 1) := by decide +kernel
theorem d_Mo_follow_60 : decode b_Mo_follow 60 = .ok (.invokevirtual 80, 3) := by decide +kernel
theorem d_Mo_follow_63 : decode b_Mo_follow 63 = .ok (.ifCond .ne 5, 3) := by decide +kernel
theorem d_Mo_follow_66 : decode b_Mo_follow 66 = .ok (.iconst 0, 1) := by decide +kernel
theorem d_Mo_follow_67 : decode b_Mo_follow 67 = .ok (.ireturn, 1) := by decide +kernel
theorem d_Mo_follow_68 : decode b_Mo_follow 68 = .ok (.aload_n 0, 1) := by decide +kernel
theorem d_Mo_follow_69 : decode b_Mo_follow 69 = .ok (.getfield 34, 3) := by decide +kernel
theorem d_Mo_follow_72 : decode b_Mo_follow 72 = .ok (.iconst 5, 1) := by decide +kernel
theorem d_Mo_follow_73 : decode b_Mo_follow 73 = .ok (.iload_n 1, 1) := by decide +kernel
theorem d_Mo_follow_74 : decode b_Mo_follow 74 = .ok (.imul, 1) := by decide +kernel
theorem d_Mo_follow_75 : decode b_Mo_follow 75 = .ok (.iload_n 2, 1) := by decide +kernel
theorem d_Mo_follow_76 : decode b_Mo_follow 76 = .ok (.iadd, 1) := by decide +kernel
theorem d_Mo_follow_77 : decode b_Mo_follow 77 = .ok (.iconst 1, 1) := by decide +kernel
theorem d_Mo_follow_78 : decode b_Mo_follow 78 = .ok (.bastore, 1) := by decide +kernel
theorem d_Mo_follow_79 : decode b_Mo_follow 79 = .ok (.aload_n 0, 1) := by decide +kernel
theorem d_Mo_follow_80 : decode b_Mo_follow 80 = .ok (.dup, 1) := by decide +kernel
theorem d_Mo_follow_81 : decode b_Mo_follow 81 = .ok (.getfield 132, 3) := by decide +kernel
theorem d_Mo_follow_84 : decode b_Mo_follow 84 = .ok (.iconst 1, 1) := by decide +kernel
theorem d_Mo_follow_85 : decode b_Mo_follow 85 = .ok (.iadd, 1) := by decide +kernel
theorem d_Mo_follow_86 : decode b_Mo_follow 86 = .ok (.putfield 132, 3) := by decide +kernel
theorem d_Mo_follow_89 : decode b_Mo_follow 89 = .ok (.aload_n 0, 1) := by decide +kernel
theorem d_Mo_follow_90 : decode b_Mo_follow 90 = .ok (.getfield 132, 3) := by decide +kernel
theorem d_Mo_follow_93 : decode b_Mo_follow 93 = .ok (.ireturn, 1) := by decide +kernel
abbrev b_Mo_isChain : ByteArray := prog_8_method_29_code
def y_Mo_isChain : MethodName := ⟨RMo, "isChain", "(II)Z"⟩
theorem k_Mo_isChain : Cond.code y_Mo_isChain b_Mo_isChain 7 (some .boolean) ∈ tt := (tt4 97 rfl rfl)
theorem i_Mo_isChain : Cond.instanceMethod y_Mo_isChain ∈ tt := (tt4 96 rfl rfl)
theorem l_Mo_isChain : Cond.selects RMo y_Mo_isChain y_Mo_isChain ∈ tt := (tt0 24 rfl rfl)
theorem d_Mo_isChain_0 : decode b_Mo_isChain 0 = .ok (.iload_n 1, 1) := by decide +kernel
theorem d_Mo_isChain_1 : decode b_Mo_isChain 1 = .ok (.istore_n 3, 1) := by decide +kernel
theorem d_Mo_isChain_2 : decode b_Mo_isChain 2 = .ok (.iconst 0, 1) := by decide +kernel
theorem d_Mo_isChain_3 : decode b_Mo_isChain 3 = .ok (.istore 4, 2) := by decide +kernel
theorem d_Mo_isChain_5 : decode b_Mo_isChain 5 = .ok (.iload_n 2, 1) := by decide +kernel
theorem d_Mo_isChain_6 : decode b_Mo_isChain 6 = .ok (.iconst 1, 1) := by decide +kernel
theorem d_Mo_isChain_7 : decode b_Mo_isChain 7 = .ok (.isub, 1) := by decide +kernel
theorem d_Mo_isChain_8 : decode b_Mo_isChain 8 = .ok (.istore 5, 2) := by decide +kernel
theorem d_Mo_isChain_10 : decode b_Mo_isChain 10 = .ok (.iload 5, 2) := by decide +kernel
theorem d_Mo_isChain_12 : decode b_Mo_isChain 12 = .ok (.ifCond .lt 88, 3) := by decide +kernel
theorem d_Mo_isChain_15 : decode b_Mo_isChain 15 = .ok (.iload_n 3, 1) := by decide +kernel
theorem d_Mo_isChain_16 : decode b_Mo_isChain 16 = .ok (.iconst 5, 1) := by decide +kernel
theorem d_Mo_isChain_17 : decode b_Mo_isChain 17 = .ok (.irem, 1) := by decide +kernel
theorem d_Mo_isChain_18 : decode b_Mo_isChain 18 = .ok (.istore 6, 2) := by decide +kernel
theorem d_Mo_isChain_20 : decode b_Mo_isChain 20 = .ok (.iload_n 3, 1) := by decide +kernel
theorem d_Mo_isChain_21 : decode b_Mo_isChain 21 = .ok (.iconst 5, 1) := by decide +kernel
theorem d_Mo_isChain_22 : decode b_Mo_isChain 22 = .ok (.idiv, 1) := by decide +kernel
theorem d_Mo_isChain_23 : decode b_Mo_isChain 23 = .ok (.istore_n 3, 1) := by decide +kernel
theorem d_Mo_isChain_24 : decode b_Mo_isChain 24 = .ok (.iload 6, 2) := by decide +kernel
theorem d_Mo_isChain_26 : decode b_Mo_isChain 26 = .ok (.aload_n 0, 1) := by decide +kernel
theorem d_Mo_isChain_27 : decode b_Mo_isChain 27 = .ok (.getfield 57, 3) := by decide +kernel
theorem d_Mo_isChain_30 : decode b_Mo_isChain 30 = .ok (.if_icmp .ge 44, 3) := by decide +kernel
theorem d_Mo_isChain_33 : decode b_Mo_isChain 33 = .ok (.iload 4, 2) := by decide +kernel
theorem d_Mo_isChain_35 : decode b_Mo_isChain 35 = .ok (.iload 6, 2) := by decide +kernel
theorem d_Mo_isChain_37 : decode b_Mo_isChain 37 = .ok (.ishr, 1) := by decide +kernel
theorem d_Mo_isChain_38 : decode b_Mo_isChain 38 = .ok (.iconst 1, 1) := by decide +kernel
theorem d_Mo_isChain_39 : decode b_Mo_isChain 39 = .ok (.iand, 1) := by decide +kernel
theorem d_Mo_isChain_40 : decode b_Mo_isChain 40 = .ok (.iconst 1, 1) := by decide +kernel
theorem d_Mo_isChain_41 : decode b_Mo_isChain 41 = .ok (.if_icmp .eq 33, 3) := by decide +kernel
theorem d_Mo_isChain_44 : decode b_Mo_isChain 44 = .ok (.iload 5, 2) := by decide +kernel
theorem d_Mo_isChain_46 : decode b_Mo_isChain 46 = .ok (.iload_n 2, 1) := by decide +kernel
theorem d_Mo_isChain_47 : decode b_Mo_isChain 47 = .ok (.iconst 1, 1) := by decide +kernel
theorem d_Mo_isChain_48 : decode b_Mo_isChain 48 = .ok (.isub, 1) := by decide +kernel
theorem d_Mo_isChain_49 : decode b_Mo_isChain 49 = .ok (.if_icmp .ge 27, 3) := by decide +kernel
theorem d_Mo_isChain_52 : decode b_Mo_isChain 52 = .ok (.aload_n 0, 1) := by decide +kernel
theorem d_Mo_isChain_53 : decode b_Mo_isChain 53 = .ok (.getfield 34, 3) := by decide +kernel
theorem d_Mo_isChain_56 : decode b_Mo_isChain 56 = .ok (.iconst 5, 1) := by decide +kernel
theorem d_Mo_isChain_57 : decode b_Mo_isChain 57 = .ok (.iload 6, 2) := by decide +kernel
theorem d_Mo_isChain_59 : decode b_Mo_isChain 59 = .ok (.imul, 1) := by decide +kernel
theorem d_Mo_isChain_60 : decode b_Mo_isChain 60 = .ok (.aload_n 0, 1) := by decide +kernel
theorem d_Mo_isChain_61 : decode b_Mo_isChain 61 = .ok (.getfield 47, 3) := by decide +kernel
theorem d_Mo_isChain_64 : decode b_Mo_isChain 64 = .ok (.iload 5, 2) := by decide +kernel
theorem d_Mo_isChain_66 : decode b_Mo_isChain 66 = .ok (.iconst 1, 1) := by decide +kernel
theorem d_Mo_isChain_67 : decode b_Mo_isChain 67 = .ok (.iadd, 1) := by decide +kernel
theorem d_Mo_isChain_68 : decode b_Mo_isChain 68 = .ok (.iaload, 1) := by decide +kernel
theorem d_Mo_isChain_69 : decode b_Mo_isChain 69 = .ok (.iadd, 1) := by decide +kernel
theorem d_Mo_isChain_70 : decode b_Mo_isChain 70 = .ok (.baload, 1) := by decide +kernel
theorem d_Mo_isChain_71 : decode b_Mo_isChain 71 = .ok (.ifCond .ne 5, 3) := by decide +kernel
theorem d_Mo_isChain_74 : decode b_Mo_isChain 74 = .ok (.iconst 0, 1) := by decide +kernel
theorem d_Mo_isChain_75 : decode b_Mo_isChain 75 = .ok (.ireturn, 1) := by decide +kernel
theorem d_Mo_isChain_76 : decode b_Mo_isChain 76 = .ok (.iload 4, 2) := by decide +kernel
theorem d_Mo_isChain_78 : decode b_Mo_isChain 78 = .ok (.iconst 1, 1) := by decide +kernel
theorem d_Mo_isChain_79 : decode b_Mo_isChain 79 = .ok (.iload 6, 2) := by decide +kernel
theorem d_Mo_isChain_81 : decode b_Mo_isChain 81 = .ok (.ishl, 1) := by decide +kernel
theorem d_Mo_isChain_82 : decode b_Mo_isChain 82 = .ok (.ior, 1) := by decide +kernel
theorem d_Mo_isChain_83 : decode b_Mo_isChain 83 = .ok (.istore 4, 2) := by decide +kernel
theorem d_Mo_isChain_85 : decode b_Mo_isChain 85 = .ok (.aload_n 0, 1) := by decide +kernel
theorem d_Mo_isChain_86 : decode b_Mo_isChain 86 = .ok (.getfield 47, 3) := by decide +kernel
theorem d_Mo_isChain_89 : decode b_Mo_isChain 89 = .ok (.iload 5, 2) := by decide +kernel
theorem d_Mo_isChain_91 : decode b_Mo_isChain 91 = .ok (.iload 6, 2) := by decide +kernel
theorem d_Mo_isChain_93 : decode b_Mo_isChain 93 = .ok (.iastore, 1) := by decide +kernel
theorem d_Mo_isChain_94 : decode b_Mo_isChain 94 = .ok (.iinc 5 (-1), 3) := by decide +kernel
theorem d_Mo_isChain_97 : decode b_Mo_isChain 97 = .ok (.goto (-87), 3) := by decide +kernel
theorem d_Mo_isChain_100 : decode b_Mo_isChain 100 = .ok (.iconst 1, 1) := by decide +kernel
theorem d_Mo_isChain_101 : decode b_Mo_isChain 101 = .ok (.ireturn, 1) := by decide +kernel
abbrev b_Mo_chain : ByteArray := prog_8_method_30_code
def y_Mo_chain : MethodName := ⟨RMo, "chain", "(I)I"⟩
theorem k_Mo_chain : Cond.code y_Mo_chain b_Mo_chain 5 (some .int) ∈ tt := (tt4 93 rfl rfl)
theorem i_Mo_chain : Cond.instanceMethod y_Mo_chain ∈ tt := (tt4 91 rfl rfl)
theorem l_Mo_chain : Cond.selects RMo y_Mo_chain y_Mo_chain ∈ tt := (tt4 92 rfl rfl)
theorem d_Mo_chain_0 : decode b_Mo_chain 0 = .ok (.aload_n 0, 1) := by decide +kernel
theorem d_Mo_chain_1 : decode b_Mo_chain 1 = .ok (.iload_n 1, 1) := by decide +kernel
theorem d_Mo_chain_2 : decode b_Mo_chain 2 = .ok (.ifCond .lt 7, 3) := by decide +kernel
theorem d_Mo_chain_5 : decode b_Mo_chain 5 = .ok (.iconst 1, 1) := by decide +kernel
theorem d_Mo_chain_6 : decode b_Mo_chain 6 = .ok (.goto 4, 3) := by decide +kernel
theorem d_Mo_chain_9 : decode b_Mo_chain 9 = .ok (.iconst 0, 1) := by decide +kernel
theorem d_Mo_chain_10 : decode b_Mo_chain 10 = .ok (.iconst 1, 1) := by decide +kernel
theorem d_Mo_chain_11 : decode b_Mo_chain 11 = .ok (.invokevirtual 80, 3) := by decide +kernel
theorem d_Mo_chain_14 : decode b_Mo_chain 14 = .ok (.ifCond .ne 5, 3) := by decide +kernel
theorem d_Mo_chain_17 : decode b_Mo_chain 17 = .ok (.iconst 0, 1) := by decide +kernel
theorem d_Mo_chain_18 : decode b_Mo_chain 18 = .ok (.ireturn, 1) := by decide +kernel
theorem d_Mo_chain_19 : decode b_Mo_chain 19 = .ok (.aload_n 0, 1) := by decide +kernel
theorem d_Mo_chain_20 : decode b_Mo_chain 20 = .ok (.getfield 57, 3) := by decide +kernel
theorem d_Mo_chain_23 : decode b_Mo_chain 23 = .ok (.istore_n 2, 1) := by decide +kernel
theorem d_Mo_chain_24 : decode b_Mo_chain 24 = .ok (.iload_n 2, 1) := by decide +kernel
theorem d_Mo_chain_25 : decode b_Mo_chain 25 = .ok (.ifCond .le 71, 3) := by decide +kernel
theorem d_Mo_chain_28 : decode b_Mo_chain 28 = .ok (.iconst 1, 1) := by decide +kernel
theorem d_Mo_chain_29 : decode b_Mo_chain 29 = .ok (.istore_n 3, 1) := by decide +kernel
theorem d_Mo_chain_30 : decode b_Mo_chain 30 = .ok (.iconst 0, 1) := by decide +kernel
theorem d_Mo_chain_31 : decode b_Mo_chain 31 = .ok (.istore 4, 2) := by decide +kernel
theorem d_Mo_chain_33 : decode b_Mo_chain 33 = .ok (.iload 4, 2) := by decide +kernel
theorem d_Mo_chain_35 : decode b_Mo_chain 35 = .ok (.iload_n 2, 1) := by decide +kernel
theorem d_Mo_chain_36 : decode b_Mo_chain 36 = .ok (.if_icmp .ge 13, 3) := by decide +kernel
theorem d_Mo_chain_39 : decode b_Mo_chain 39 = .ok (.iload_n 3, 1) := by decide +kernel
theorem d_Mo_chain_40 : decode b_Mo_chain 40 = .ok (.iconst 5, 1) := by decide +kernel
theorem d_Mo_chain_41 : decode b_Mo_chain 41 = .ok (.imul, 1) := by decide +kernel
theorem d_Mo_chain_42 : decode b_Mo_chain 42 = .ok (.istore_n 3, 1) := by decide +kernel
theorem d_Mo_chain_43 : decode b_Mo_chain 43 = .ok (.iinc 4 1, 3) := by decide +kernel
theorem d_Mo_chain_46 : decode b_Mo_chain 46 = .ok (.goto (-13), 3) := by decide +kernel
theorem d_Mo_chain_49 : decode b_Mo_chain 49 = .ok (.iconst 0, 1) := by decide +kernel
theorem d_Mo_chain_50 : decode b_Mo_chain 50 = .ok (.istore 4, 2) := by decide +kernel
theorem d_Mo_chain_52 : decode b_Mo_chain 52 = .ok (.iload 4, 2) := by decide +kernel
theorem d_Mo_chain_54 : decode b_Mo_chain 54 = .ok (.iload_n 3, 1) := by decide +kernel
theorem d_Mo_chain_55 : decode b_Mo_chain 55 = .ok (.if_icmp .ge 35, 3) := by decide +kernel
theorem d_Mo_chain_58 : decode b_Mo_chain 58 = .ok (.aload_n 0, 1) := by decide +kernel
theorem d_Mo_chain_59 : decode b_Mo_chain 59 = .ok (.iload 4, 2) := by decide +kernel
theorem d_Mo_chain_61 : decode b_Mo_chain 61 = .ok (.iload_n 2, 1) := by decide +kernel
theorem d_Mo_chain_62 : decode b_Mo_chain 62 = .ok (.invokevirtual 135, 3) := by decide +kernel
theorem d_Mo_chain_65 : decode b_Mo_chain 65 = .ok (.ifCond .eq 19, 3) := by decide +kernel
theorem d_Mo_chain_68 : decode b_Mo_chain 68 = .ok (.iload_n 1, 1) := by decide +kernel
theorem d_Mo_chain_69 : decode b_Mo_chain 69 = .ok (.iload_n 2, 1) := by decide +kernel
theorem d_Mo_chain_70 : decode b_Mo_chain 70 = .ok (.if_icmp .ge 12, 3) := by decide +kernel
theorem d_Mo_chain_73 : decode b_Mo_chain 73 = .ok (.aload_n 0, 1) := by decide +kernel
theorem d_Mo_chain_74 : decode b_Mo_chain 74 = .ok (.getfield 47, 3) := by decide +kernel
theorem d_Mo_chain_77 : decode b_Mo_chain 77 = .ok (.iload_n 1, 1) := by decide +kernel
theorem d_Mo_chain_78 : decode b_Mo_chain 78 = .ok (.iaload, 1) := by decide +kernel
theorem d_Mo_chain_79 : decode b_Mo_chain 79 = .ok (.goto 4, 3) := by decide +kernel
theorem d_Mo_chain_82 : decode b_Mo_chain 82 = .ok (.iconst (-1), 1) := by decide +kernel
theorem d_Mo_chain_83 : decode b_Mo_chain 83 = .ok (.ireturn, 1) := by decide +kernel
theorem d_Mo_chain_84 : decode b_Mo_chain 84 = .ok (.iinc 4 1, 3) := by decide +kernel
theorem d_Mo_chain_87 : decode b_Mo_chain 87 = .ok (.goto (-35), 3) := by decide +kernel
theorem d_Mo_chain_90 : decode b_Mo_chain 90 = .ok (.iinc 2 (-1), 3) := by decide +kernel
theorem d_Mo_chain_93 : decode b_Mo_chain 93 = .ok (.goto (-69), 3) := by decide +kernel
theorem d_Mo_chain_96 : decode b_Mo_chain 96 = .ok (.iconst (-1), 1) := by decide +kernel
theorem d_Mo_chain_97 : decode b_Mo_chain 97 = .ok (.ireturn, 1) := by decide +kernel
