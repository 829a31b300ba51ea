abbrev b_OB_init : ByteArray := prog_1_method_1_code
def y_OB_init : MethodName := ⟨ROB, "<init>", "()V"⟩
theorem k_OB_init : Cond.code y_OB_init b_OB_init 1 none ∈ tt := (tt1 21 rfl rfl)
theorem i_OB_init : Cond.instanceMethod y_OB_init ∈ tt := (tt1 20 rfl rfl)
theorem d_OB_init_0 : decode b_OB_init 0 = .ok (.aload_n 0, 1) := by decide +kernel
theorem d_OB_init_1 : decode b_OB_init 1 = .ok (.invokespecial 1, 3) := by decide +kernel
theorem d_OB_init_4 : decode b_OB_init 4 = .ok (.aload_n 0, 1) := by decide +kernel
theorem d_OB_init_5 : decode b_OB_init 5 = .ok (.new 7, 3) := by decide +kernel
theorem d_OB_init_8 : decode b_OB_init 8 = .ok (.dup, 1) := by decide +kernel
theorem d_OB_init_9 : decode b_OB_init 9 = .ok (.invokespecial 9, 3) := by decide +kernel
theorem d_OB_init_12 : decode b_OB_init 12 = .ok (.putfield 10, 3) := by decide +kernel
theorem d_OB_init_15 : decode b_OB_init 15 = .ok (.aload_n 0, 1) := by decide +kernel
theorem d_OB_init_16 : decode b_OB_init 16 = .ok (.new 16, 3) := by decide +kernel
theorem d_OB_init_19 : decode b_OB_init 19 = .ok (.dup, 1) := by decide +kernel
theorem d_OB_init_20 : decode b_OB_init 20 = .ok (.invokespecial 18, 3) := by decide +kernel
theorem d_OB_init_23 : decode b_OB_init 23 = .ok (.putfield 19, 3) := by decide +kernel
theorem d_OB_init_26 : decode b_OB_init 26 = .ok (.aload_n 0, 1) := by decide +kernel
theorem d_OB_init_27 : decode b_OB_init 27 = .ok (.new 23, 3) := by decide +kernel
theorem d_OB_init_30 : decode b_OB_init 30 = .ok (.dup, 1) := by decide +kernel
theorem d_OB_init_31 : decode b_OB_init 31 = .ok (.aload_n 0, 1) := by decide +kernel
theorem d_OB_init_32 : decode b_OB_init 32 = .ok (.getfield 10, 3) := by decide +kernel
theorem d_OB_init_35 : decode b_OB_init 35 = .ok (.aload_n 0, 1) := by decide +kernel
theorem d_OB_init_36 : decode b_OB_init 36 = .ok (.getfield 19, 3) := by decide +kernel
theorem d_OB_init_39 : decode b_OB_init 39 = .ok (.invokespecial 25, 3) := by decide +kernel
theorem d_OB_init_42 : decode b_OB_init 42 = .ok (.putfield 28, 3) := by decide +kernel
theorem d_OB_init_45 : decode b_OB_init 45 = .ok (.aload_n 0, 1) := by decide +kernel
theorem d_OB_init_46 : decode b_OB_init 46 = .ok (.new 32, 3) := by decide +kernel
theorem d_OB_init_49 : decode b_OB_init 49 = .ok (.dup, 1) := by decide +kernel
theorem d_OB_init_50 : decode b_OB_init 50 = .ok (.invokespecial 34, 3) := by decide +kernel
theorem d_OB_init_53 : decode b_OB_init 53 = .ok (.putfield 35, 3) := by decide +kernel
theorem d_OB_init_56 : decode b_OB_init 56 = .ok (.return_, 1) := by decide +kernel
abbrev b_OB_column : ByteArray := prog_1_method_2_code
def y_OB_column : MethodName := ⟨ROB, "column", "(II)I"⟩
theorem k_OB_column : Cond.code y_OB_column b_OB_column 4 (some .int) ∈ tt := (tt2 5 rfl rfl)
theorem i_OB_column : Cond.instanceMethod y_OB_column ∈ tt := (tt2 3 rfl rfl)
theorem l_OB_column : Cond.selects ROB y_OB_column y_OB_column ∈ tt := (tt2 4 rfl rfl)
theorem d_OB_column_0 : decode b_OB_column 0 = .ok (.iload_n 1, 1) := by decide +kernel
theorem d_OB_column_1 : decode b_OB_column 1 = .ok (.sipush (-1000), 3) := by decide +kernel
theorem d_OB_column_4 : decode b_OB_column 4 = .ok (.if_icmp .lt 10, 3) := by decide +kernel
theorem d_OB_column_7 : decode b_OB_column 7 = .ok (.iload_n 1, 1) := by decide +kernel
theorem d_OB_column_8 : decode b_OB_column 8 = .ok (.sipush 1000, 3) := by decide +kernel
theorem d_OB_column_11 : decode b_OB_column 11 = .ok (.if_icmp .le 13, 3) := by decide +kernel
theorem d_OB_column_14 : decode b_OB_column 14 = .ok (.new 39, 3) := by decide +kernel
theorem d_OB_column_17 : decode b_OB_column 17 = .ok (.dup, 1) := by decide +kernel
theorem d_OB_column_18 : decode b_OB_column 18 = .ok (.ldc 41, 2) := by decide +kernel
theorem d_OB_column_20 : decode b_OB_column 20 = .ok (.invokespecial 43, 3) := by decide +kernel
theorem d_OB_column_23 : decode b_OB_column 23 = .ok (.athrow, 1) := by decide +kernel
theorem d_OB_column_24 : decode b_OB_column 24 = .ok (.iload_n 2, 1) := by decide +kernel
theorem d_OB_column_25 : decode b_OB_column 25 = .ok (.ifCond .lt 9, 3) := by decide +kernel
theorem d_OB_column_28 : decode b_OB_column 28 = .ok (.iload_n 2, 1) := by decide +kernel
theorem d_OB_column_29 : decode b_OB_column 29 = .ok (.bipush 20, 2) := by decide +kernel
theorem d_OB_column_31 : decode b_OB_column 31 = .ok (.if_icmp .le 13, 3) := by decide +kernel
theorem d_OB_column_34 : decode b_OB_column 34 = .ok (.new 39, 3) := by decide +kernel
theorem d_OB_column_37 : decode b_OB_column 37 = .ok (.dup, 1) := by decide +kernel
theorem d_OB_column_38 : decode b_OB_column 38 = .ok (.ldc 46, 2) := by decide +kernel
theorem d_OB_column_40 : decode b_OB_column 40 = .ok (.invokespecial 43, 3) := by decide +kernel
theorem d_OB_column_43 : decode b_OB_column 43 = .ok (.athrow, 1) := by decide +kernel
theorem d_OB_column_44 : decode b_OB_column 44 = .ok (.aload_n 0, 1) := by decide +kernel
theorem d_OB_column_45 : decode b_OB_column 45 = .ok (.getfield 10, 3) := by decide +kernel
theorem d_OB_column_48 : decode b_OB_column 48 = .ok (.invokevirtual 48, 3) := by decide +kernel
theorem d_OB_column_51 : decode b_OB_column 51 = .ok (.iconst 5, 1) := by decide +kernel
theorem d_OB_column_52 : decode b_OB_column 52 = .ok (.if_icmp .lt 13, 3) := by decide +kernel
theorem d_OB_column_55 : decode b_OB_column 55 = .ok (.new 52, 3) := by decide +kernel
theorem d_OB_column_58 : decode b_OB_column 58 = .ok (.dup, 1) := by decide +kernel
theorem d_OB_column_59 : decode b_OB_column 59 = .ok (.ldc 54, 2) := by decide +kernel
theorem d_OB_column_61 : decode b_OB_column 61 = .ok (.invokespecial 56, 3) := by decide +kernel
theorem d_OB_column_64 : decode b_OB_column 64 = .ok (.athrow, 1) := by decide +kernel
theorem d_OB_column_65 : decode b_OB_column 65 = .ok (.aload_n 0, 1) := by decide +kernel
theorem d_OB_column_66 : decode b_OB_column 66 = .ok (.getfield 10, 3) := by decide +kernel
theorem d_OB_column_69 : decode b_OB_column 69 = .ok (.iload_n 1, 1) := by decide +kernel
theorem d_OB_column_70 : decode b_OB_column 70 = .ok (.iload_n 2, 1) := by decide +kernel
theorem d_OB_column_71 : decode b_OB_column 71 = .ok (.invokevirtual 57, 3) := by decide +kernel
theorem d_OB_column_74 : decode b_OB_column 74 = .ok (.istore_n 3, 1) := by decide +kernel
theorem d_OB_column_75 : decode b_OB_column 75 = .ok (.aload_n 0, 1) := by decide +kernel
theorem d_OB_column_76 : decode b_OB_column 76 = .ok (.getfield 28, 3) := by decide +kernel
theorem d_OB_column_79 : decode b_OB_column 79 = .ok (.invokevirtual 61, 3) := by decide +kernel
theorem d_OB_column_82 : decode b_OB_column 82 = .ok (.iload_n 3, 1) := by decide +kernel
theorem d_OB_column_83 : decode b_OB_column 83 = .ok (.ireturn, 1) := by decide +kernel
abbrev b_OB_row : ByteArray := prog_1_method_3_code
def y_OB_row : MethodName := ⟨ROB, "row", "(II)I"⟩
theorem k_OB_row : Cond.code y_OB_row b_OB_row 4 (some .int) ∈ tt := (tt2 118 rfl rfl)
theorem i_OB_row : Cond.instanceMethod y_OB_row ∈ tt := (tt2 116 rfl rfl)
theorem l_OB_row : Cond.selects ROB y_OB_row y_OB_row ∈ tt := (tt2 117 rfl rfl)
theorem d_OB_row_0 : decode b_OB_row 0 = .ok (.iload_n 1, 1) := by decide +kernel
theorem d_OB_row_1 : decode b_OB_row 1 = .ok (.ifCond .eq 18, 3) := by decide +kernel
theorem d_OB_row_4 : decode b_OB_row 4 = .ok (.iload_n 1, 1) := by decide +kernel
theorem d_OB_row_5 : decode b_OB_row 5 = .ok (.iconst 1, 1) := by decide +kernel
theorem d_OB_row_6 : decode b_OB_row 6 = .ok (.if_icmp .eq 13, 3) := by decide +kernel
theorem d_OB_row_9 : decode b_OB_row 9 = .ok (.new 39, 3) := by decide +kernel
theorem d_OB_row_12 : decode b_OB_row 12 = .ok (.dup, 1) := by decide +kernel
theorem d_OB_row_13 : decode b_OB_row 13 = .ok (.ldc 64, 2) := by decide +kernel
theorem d_OB_row_15 : decode b_OB_row 15 = .ok (.invokespecial 43, 3) := by decide +kernel
theorem d_OB_row_18 : decode b_OB_row 18 = .ok (.athrow, 1) := by decide +kernel
theorem d_OB_row_19 : decode b_OB_row 19 = .ok (.iload_n 2, 1) := by decide +kernel
theorem d_OB_row_20 : decode b_OB_row 20 = .ok (.invokestatic 66, 3) := by decide +kernel
theorem d_OB_row_23 : decode b_OB_row 23 = .ok (.ifCond .eq 13, 3) := by decide +kernel
theorem d_OB_row_26 : decode b_OB_row 26 = .ok (.new 39, 3) := by decide +kernel
theorem d_OB_row_29 : decode b_OB_row 29 = .ok (.dup, 1) := by decide +kernel
theorem d_OB_row_30 : decode b_OB_row 30 = .ok (.ldc 70, 2) := by decide +kernel
theorem d_OB_row_32 : decode b_OB_row 32 = .ok (.invokespecial 43, 3) := by decide +kernel
theorem d_OB_row_35 : decode b_OB_row 35 = .ok (.athrow, 1) := by decide +kernel
theorem d_OB_row_36 : decode b_OB_row 36 = .ok (.aload_n 0, 1) := by decide +kernel
theorem d_OB_row_37 : decode b_OB_row 37 = .ok (.getfield 19, 3) := by decide +kernel
theorem d_OB_row_40 : decode b_OB_row 40 = .ok (.invokevirtual 72, 3) := by decide +kernel
theorem d_OB_row_43 : decode b_OB_row 43 = .ok (.iconst 4, 1) := by decide +kernel
theorem d_OB_row_44 : decode b_OB_row 44 = .ok (.if_icmp .lt 13, 3) := by decide +kernel
theorem d_OB_row_47 : decode b_OB_row 47 = .ok (.new 52, 3) := by decide +kernel
theorem d_OB_row_50 : decode b_OB_row 50 = .ok (.dup, 1) := by decide +kernel
theorem d_OB_row_51 : decode b_OB_row 51 = .ok (.ldc 75, 2) := by decide +kernel
theorem d_OB_row_53 : decode b_OB_row 53 = .ok (.invokespecial 56, 3) := by decide +kernel
theorem d_OB_row_56 : decode b_OB_row 56 = .ok (.athrow, 1) := by decide +kernel
theorem d_OB_row_57 : decode b_OB_row 57 = .ok (.aload_n 0, 1) := by decide +kernel
theorem d_OB_row_58 : decode b_OB_row 58 = .ok (.getfield 19, 3) := by decide +kernel
theorem d_OB_row_61 : decode b_OB_row 61 = .ok (.iload_n 1, 1) := by decide +kernel
theorem d_OB_row_62 : decode b_OB_row 62 = .ok (.iload_n 2, 1) := by decide +kernel
theorem d_OB_row_63 : decode b_OB_row 63 = .ok (.invokevirtual 77, 3) := by decide +kernel
theorem d_OB_row_66 : decode b_OB_row 66 = .ok (.istore_n 3, 1) := by decide +kernel
theorem d_OB_row_67 : decode b_OB_row 67 = .ok (.aload_n 0, 1) := by decide +kernel
theorem d_OB_row_68 : decode b_OB_row 68 = .ok (.getfield 28, 3) := by decide +kernel
theorem d_OB_row_71 : decode b_OB_row 71 = .ok (.invokevirtual 61, 3) := by decide +kernel
theorem d_OB_row_74 : decode b_OB_row 74 = .ok (.iload_n 3, 1) := by decide +kernel
theorem d_OB_row_75 : decode b_OB_row 75 = .ok (.ireturn, 1) := by decide +kernel
abbrev b_OB_factor : ByteArray := prog_1_method_4_code
def y_OB_factor : MethodName := ⟨ROB, "factor", "(III)V"⟩
theorem k_OB_factor : Cond.code y_OB_factor b_OB_factor 4 none ∈ tt := (tt2 156 rfl rfl)
theorem i_OB_factor : Cond.instanceMethod y_OB_factor ∈ tt := (tt2 154 rfl rfl)
theorem l_OB_factor : Cond.selects ROB y_OB_factor y_OB_factor ∈ tt := (tt2 155 rfl rfl)
theorem d_OB_factor_0 : decode b_OB_factor 0 = .ok (.aload_n 0, 1) := by decide +kernel
theorem d_OB_factor_1 : decode b_OB_factor 1 = .ok (.iload_n 1, 1) := by decide +kernel
theorem d_OB_factor_2 : decode b_OB_factor 2 = .ok (.invokevirtual 80, 3) := by decide +kernel
theorem d_OB_factor_5 : decode b_OB_factor 5 = .ok (.ifCond .eq 13, 3) := by decide +kernel
theorem d_OB_factor_8 : decode b_OB_factor 8 = .ok (.new 83, 3) := by decide +kernel
theorem d_OB_factor_11 : decode b_OB_factor 11 = .ok (.dup, 1) := by decide +kernel
theorem d_OB_factor_12 : decode b_OB_factor 12 = .ok (.ldc 85, 2) := by decide +kernel
theorem d_OB_factor_14 : decode b_OB_factor 14 = .ok (.invokespecial 87, 3) := by decide +kernel
theorem d_OB_factor_17 : decode b_OB_factor 17 = .ok (.athrow, 1) := by decide +kernel
theorem d_OB_factor_18 : decode b_OB_factor 18 = .ok (.aload_n 0, 1) := by decide +kernel
theorem d_OB_factor_19 : decode b_OB_factor 19 = .ok (.iload_n 2, 1) := by decide +kernel
theorem d_OB_factor_20 : decode b_OB_factor 20 = .ok (.invokevirtual 88, 3) := by decide +kernel
theorem d_OB_factor_23 : decode b_OB_factor 23 = .ok (.ifCond .eq 13, 3) := by decide +kernel
theorem d_OB_factor_26 : decode b_OB_factor 26 = .ok (.new 83, 3) := by decide +kernel
theorem d_OB_factor_29 : decode b_OB_factor 29 = .ok (.dup, 1) := by decide +kernel
theorem d_OB_factor_30 : decode b_OB_factor 30 = .ok (.ldc 91, 2) := by decide +kernel
theorem d_OB_factor_32 : decode b_OB_factor 32 = .ok (.invokespecial 87, 3) := by decide +kernel
theorem d_OB_factor_35 : decode b_OB_factor 35 = .ok (.athrow, 1) := by decide +kernel
theorem d_OB_factor_36 : decode b_OB_factor 36 = .ok (.iload_n 3, 1) := by decide +kernel
theorem d_OB_factor_37 : decode b_OB_factor 37 = .ok (.bipush (-10), 2) := by decide +kernel
theorem d_OB_factor_39 : decode b_OB_factor 39 = .ok (.if_icmp .lt 9, 3) := by decide +kernel
theorem d_OB_factor_42 : decode b_OB_factor 42 = .ok (.iload_n 3, 1) := by decide +kernel
theorem d_OB_factor_43 : decode b_OB_factor 43 = .ok (.bipush 10, 2) := by decide +kernel
theorem d_OB_factor_45 : decode b_OB_factor 45 = .ok (.if_icmp .le 13, 3) := by decide +kernel
theorem d_OB_factor_48 : decode b_OB_factor 48 = .ok (.new 39, 3) := by decide +kernel
theorem d_OB_factor_51 : decode b_OB_factor 51 = .ok (.dup, 1) := by decide +kernel
theorem d_OB_factor_52 : decode b_OB_factor 52 = .ok (.ldc 93, 2) := by decide +kernel
theorem d_OB_factor_54 : decode b_OB_factor 54 = .ok (.invokespecial 43, 3) := by decide +kernel
theorem d_OB_factor_57 : decode b_OB_factor 57 = .ok (.athrow, 1) := by decide +kernel
theorem d_OB_factor_58 : decode b_OB_factor 58 = .ok (.aload_n 0, 1) := by decide +kernel
theorem d_OB_factor_59 : decode b_OB_factor 59 = .ok (.getfield 19, 3) := by decide +kernel
theorem d_OB_factor_62 : decode b_OB_factor 62 = .ok (.iload_n 1, 1) := by decide +kernel
theorem d_OB_factor_63 : decode b_OB_factor 63 = .ok (.invokevirtual 95, 3) := by decide +kernel
theorem d_OB_factor_66 : decode b_OB_factor 66 = .ok (.iload_n 2, 1) := by decide +kernel
theorem d_OB_factor_67 : decode b_OB_factor 67 = .ok (.iload_n 3, 1) := by decide +kernel
theorem d_OB_factor_68 : decode b_OB_factor 68 = .ok (.invokevirtual 99, 3) := by decide +kernel
theorem d_OB_factor_71 : decode b_OB_factor 71 = .ok (.aload_n 0, 1) := by decide +kernel
theorem d_OB_factor_72 : decode b_OB_factor 72 = .ok (.getfield 28, 3) := by decide +kernel
theorem d_OB_factor_75 : decode b_OB_factor 75 = .ok (.invokevirtual 61, 3) := by decide +kernel
theorem d_OB_factor_78 : decode b_OB_factor 78 = .ok (.return_, 1) := by decide +kernel
abbrev b_OB_right : ByteArray := prog_1_method_5_code
def y_OB_right : MethodName := ⟨ROB, "right", "(II)V"⟩
theorem k_OB_right : Cond.code y_OB_right b_OB_right 3 none ∈ tt := (tt2 193 rfl rfl)
theorem i_OB_right : Cond.instanceMethod y_OB_right ∈ tt := (tt2 191 rfl rfl)
theorem l_OB_right : Cond.selects ROB y_OB_right y_OB_right ∈ tt := (tt2 192 rfl rfl)
theorem d_OB_right_0 : decode b_OB_right 0 = .ok (.aload_n 0, 1) := by decide +kernel
theorem d_OB_right_1 : decode b_OB_right 1 = .ok (.iload_n 1, 1) := by decide +kernel
theorem d_OB_right_2 : decode b_OB_right 2 = .ok (.invokevirtual 80, 3) := by decide +kernel
theorem d_OB_right_5 : decode b_OB_right 5 = .ok (.ifCond .eq 13, 3) := by decide +kernel
theorem d_OB_right_8 : decode b_OB_right 8 = .ok (.new 83, 3) := by decide +kernel
theorem d_OB_right_11 : decode b_OB_right 11 = .ok (.dup, 1) := by decide +kernel
theorem d_OB_right_12 : decode b_OB_right 12 = .ok (.ldc 85, 2) := by decide +kernel
theorem d_OB_right_14 : decode b_OB_right 14 = .ok (.invokespecial 87, 3) := by decide +kernel
theorem d_OB_right_17 : decode b_OB_right 17 = .ok (.athrow, 1) := by decide +kernel
theorem d_OB_right_18 : decode b_OB_right 18 = .ok (.iload_n 2, 1) := by decide +kernel
theorem d_OB_right_19 : decode b_OB_right 19 = .ok (.invokestatic 66, 3) := by decide +kernel
theorem d_OB_right_22 : decode b_OB_right 22 = .ok (.ifCond .eq 13, 3) := by decide +kernel
theorem d_OB_right_25 : decode b_OB_right 25 = .ok (.new 39, 3) := by decide +kernel
theorem d_OB_right_28 : decode b_OB_right 28 = .ok (.dup, 1) := by decide +kernel
theorem d_OB_right_29 : decode b_OB_right 29 = .ok (.ldc 70, 2) := by decide +kernel
theorem d_OB_right_31 : decode b_OB_right 31 = .ok (.invokespecial 43, 3) := by decide +kernel
theorem d_OB_right_34 : decode b_OB_right 34 = .ok (.athrow, 1) := by decide +kernel
theorem d_OB_right_35 : decode b_OB_right 35 = .ok (.aload_n 0, 1) := by decide +kernel
theorem d_OB_right_36 : decode b_OB_right 36 = .ok (.getfield 19, 3) := by decide +kernel
theorem d_OB_right_39 : decode b_OB_right 39 = .ok (.iload_n 1, 1) := by decide +kernel
theorem d_OB_right_40 : decode b_OB_right 40 = .ok (.invokevirtual 95, 3) := by decide +kernel
theorem d_OB_right_43 : decode b_OB_right 43 = .ok (.iload_n 2, 1) := by decide +kernel
theorem d_OB_right_44 : decode b_OB_right 44 = .ok (.invokevirtual 105, 3) := by decide +kernel
theorem d_OB_right_47 : decode b_OB_right 47 = .ok (.aload_n 0, 1) := by decide +kernel
theorem d_OB_right_48 : decode b_OB_right 48 = .ok (.getfield 28, 3) := by decide +kernel
theorem d_OB_right_51 : decode b_OB_right 51 = .ok (.invokevirtual 61, 3) := by decide +kernel
theorem d_OB_right_54 : decode b_OB_right 54 = .ok (.return_, 1) := by decide +kernel
abbrev b_OB_cut : ByteArray := prog_1_method_6_code
def y_OB_cut : MethodName := ⟨ROB, "cut", "(II)I"⟩
theorem k_OB_cut : Cond.code y_OB_cut b_OB_cut 4 (some .int) ∈ tt := (tt2 201 rfl rfl)
theorem i_OB_cut : Cond.instanceMethod y_OB_cut ∈ tt := (tt2 199 rfl rfl)
theorem l_OB_cut : Cond.selects ROB y_OB_cut y_OB_cut ∈ tt := (tt2 200 rfl rfl)
theorem d_OB_cut_0 : decode b_OB_cut 0 = .ok (.aload_n 0, 1) := by decide +kernel
theorem d_OB_cut_1 : decode b_OB_cut 1 = .ok (.iload_n 1, 1) := by decide +kernel
theorem d_OB_cut_2 : decode b_OB_cut 2 = .ok (.iload_n 2, 1) := by decide +kernel
theorem d_OB_cut_3 : decode b_OB_cut 3 = .ok (.invokevirtual 109, 3) := by decide +kernel
theorem d_OB_cut_6 : decode b_OB_cut 6 = .ok (.ifCond .eq 13, 3) := by decide +kernel
theorem d_OB_cut_9 : decode b_OB_cut 9 = .ok (.new 83, 3) := by decide +kernel
theorem d_OB_cut_12 : decode b_OB_cut 12 = .ok (.dup, 1) := by decide +kernel
theorem d_OB_cut_13 : decode b_OB_cut 13 = .ok (.ldc 113, 2) := by decide +kernel
theorem d_OB_cut_15 : decode b_OB_cut 15 = .ok (.invokespecial 87, 3) := by decide +kernel
theorem d_OB_cut_18 : decode b_OB_cut 18 = .ok (.athrow, 1) := by decide +kernel
theorem d_OB_cut_19 : decode b_OB_cut 19 = .ok (.aload_n 0, 1) := by decide +kernel
theorem d_OB_cut_20 : decode b_OB_cut 20 = .ok (.getfield 19, 3) := by decide +kernel
theorem d_OB_cut_23 : decode b_OB_cut 23 = .ok (.invokevirtual 115, 3) := by decide +kernel
theorem d_OB_cut_26 : decode b_OB_cut 26 = .ok (.iconst 4, 1) := by decide +kernel
theorem d_OB_cut_27 : decode b_OB_cut 27 = .ok (.if_icmp .lt 13, 3) := by decide +kernel
theorem d_OB_cut_30 : decode b_OB_cut 30 = .ok (.new 52, 3) := by decide +kernel
theorem d_OB_cut_33 : decode b_OB_cut 33 = .ok (.dup, 1) := by decide +kernel
theorem d_OB_cut_34 : decode b_OB_cut 34 = .ok (.ldc 118, 2) := by decide +kernel
theorem d_OB_cut_36 : decode b_OB_cut 36 = .ok (.invokespecial 56, 3) := by decide +kernel
theorem d_OB_cut_39 : decode b_OB_cut 39 = .ok (.athrow, 1) := by decide +kernel
theorem d_OB_cut_40 : decode b_OB_cut 40 = .ok (.aload_n 0, 1) := by decide +kernel
theorem d_OB_cut_41 : decode b_OB_cut 41 = .ok (.getfield 19, 3) := by decide +kernel
theorem d_OB_cut_44 : decode b_OB_cut 44 = .ok (.iload_n 1, 1) := by decide +kernel
theorem d_OB_cut_45 : decode b_OB_cut 45 = .ok (.iload_n 2, 1) := by decide +kernel
theorem d_OB_cut_46 : decode b_OB_cut 46 = .ok (.invokevirtual 120, 3) := by decide +kernel
theorem d_OB_cut_49 : decode b_OB_cut 49 = .ok (.ifCond .eq 13, 3) := by decide +kernel
theorem d_OB_cut_52 : decode b_OB_cut 52 = .ok (.new 52, 3) := by decide +kernel
theorem d_OB_cut_55 : decode b_OB_cut 55 = .ok (.dup, 1) := by decide +kernel
theorem d_OB_cut_56 : decode b_OB_cut 56 = .ok (.ldc 123, 2) := by decide +kernel
theorem d_OB_cut_58 : decode b_OB_cut 58 = .ok (.invokespecial 56, 3) := by decide +kernel
theorem d_OB_cut_61 : decode b_OB_cut 61 = .ok (.athrow, 1) := by decide +kernel
theorem d_OB_cut_62 : decode b_OB_cut 62 = .ok (.aload_n 0, 1) := by decide +kernel
theorem d_OB_cut_63 : decode b_OB_cut 63 = .ok (.getfield 19, 3) := by decide +kernel
theorem d_OB_cut_66 : decode b_OB_cut 66 = .ok (.iload_n 1, 1) := by decide +kernel
theorem d_OB_cut_67 : decode b_OB_cut 67 = .ok (.iload_n 2, 1) := by decide +kernel
theorem d_OB_cut_68 : decode b_OB_cut 68 = .ok (.aload_n 0, 1) := by decide +kernel
theorem d_OB_cut_69 : decode b_OB_cut 69 = .ok (.getfield 10, 3) := by decide +kernel
theorem d_OB_cut_72 : decode b_OB_cut 72 = .ok (.iload_n 1, 1) := by decide +kernel
theorem d_OB_cut_73 : decode b_OB_cut 73 = .ok (.invokevirtual 125, 3) := by decide +kernel
theorem d_OB_cut_76 : decode b_OB_cut 76 = .ok (.aload_n 0, 1) := by decide +kernel
theorem d_OB_cut_77 : decode b_OB_cut 77 = .ok (.getfield 10, 3) := by decide +kernel
theorem d_OB_cut_80 : decode b_OB_cut 80 = .ok (.iload_n 2, 1) := by decide +kernel
theorem d_OB_cut_81 : decode b_OB_cut 81 = .ok (.invokevirtual 125, 3) := by decide +kernel
theorem d_OB_cut_84 : decode b_OB_cut 84 = .ok (.invokestatic 129, 3) := by decide +kernel
theorem d_OB_cut_87 : decode b_OB_cut 87 = .ok (.invokevirtual 134, 3) := by decide +kernel
theorem d_OB_cut_90 : decode b_OB_cut 90 = .ok (.istore_n 3, 1) := by decide +kernel
theorem d_OB_cut_91 : decode b_OB_cut 91 = .ok (.aload_n 0, 1) := by decide +kernel
theorem d_OB_cut_92 : decode b_OB_cut 92 = .ok (.getfield 28, 3) := by decide +kernel
theorem d_OB_cut_95 : decode b_OB_cut 95 = .ok (.invokevirtual 61, 3) := by decide +kernel
theorem d_OB_cut_98 : decode b_OB_cut 98 = .ok (.iload_n 3, 1) := by decide +kernel
theorem d_OB_cut_99 : decode b_OB_cut 99 = .ok (.ireturn, 1) := by decide +kernel
abbrev b_OB_run : ByteArray := prog_1_method_7_code
def y_OB_run : MethodName := ⟨ROB, "run", "(I)I"⟩
theorem k_OB_run : Cond.code y_OB_run b_OB_run 2 (some .int) ∈ tt := (tt2 229 rfl rfl)
theorem i_OB_run : Cond.instanceMethod y_OB_run ∈ tt := (tt2 227 rfl rfl)
theorem l_OB_run : Cond.selects ROB y_OB_run y_OB_run ∈ tt := (tt2 228 rfl rfl)
theorem d_OB_run_0 : decode b_OB_run 0 = .ok (.iload_n 1, 1) := by decide +kernel
theorem d_OB_run_1 : decode b_OB_run 1 = .ok (.ifCond .lt 9, 3) := by decide +kernel
theorem d_OB_run_4 : decode b_OB_run 4 = .ok (.iload_n 1, 1) := by decide +kernel
theorem d_OB_run_5 : decode b_OB_run 5 = .ok (.ldc 138, 2) := by decide +kernel
theorem d_OB_run_7 : decode b_OB_run 7 = .ok (.if_icmp .le 13, 3) := by decide +kernel
theorem d_OB_run_10 : decode b_OB_run 10 = .ok (.new 39, 3) := by decide +kernel
theorem d_OB_run_13 : decode b_OB_run 13 = .ok (.dup, 1) := by decide +kernel
theorem d_OB_run_14 : decode b_OB_run 14 = .ok (.ldc 139, 2) := by decide +kernel
theorem d_OB_run_16 : decode b_OB_run 16 = .ok (.invokespecial 43, 3) := by decide +kernel
theorem d_OB_run_19 : decode b_OB_run 19 = .ok (.athrow, 1) := by decide +kernel
theorem d_OB_run_20 : decode b_OB_run 20 = .ok (.aload_n 0, 1) := by decide +kernel
theorem d_OB_run_21 : decode b_OB_run 21 = .ok (.getfield 28, 3) := by decide +kernel
theorem d_OB_run_24 : decode b_OB_run 24 = .ok (.iload_n 1, 1) := by decide +kernel
theorem d_OB_run_25 : decode b_OB_run 25 = .ok (.invokevirtual 141, 3) := by decide +kernel
theorem d_OB_run_28 : decode b_OB_run 28 = .ok (.ireturn, 1) := by decide +kernel
abbrev b_OB_told : ByteArray := prog_1_method_8_code
def y_OB_told : MethodName := ⟨ROB, "told", "(I)I"⟩
theorem k_OB_told : Cond.code y_OB_told b_OB_told 2 (some .int) ∈ tt := (tt3 39 rfl rfl)
theorem i_OB_told : Cond.instanceMethod y_OB_told ∈ tt := (tt3 37 rfl rfl)
theorem l_OB_told : Cond.selects ROB y_OB_told y_OB_told ∈ tt := (tt3 38 rfl rfl)
theorem d_OB_told_0 : decode b_OB_told 0 = .ok (.iload_n 1, 1) := by decide +kernel
theorem d_OB_told_1 : decode b_OB_told 1 = .ok (.ifCond .eq 18, 3) := by decide +kernel
theorem d_OB_told_4 : decode b_OB_told 4 = .ok (.iload_n 1, 1) := by decide +kernel
theorem d_OB_told_5 : decode b_OB_told 5 = .ok (.iconst 1, 1) := by decide +kernel
theorem d_OB_told_6 : decode b_OB_told 6 = .ok (.if_icmp .eq 13, 3) := by decide +kernel
theorem d_OB_told_9 : decode b_OB_told 9 = .ok (.new 83, 3) := by decide +kernel
theorem d_OB_told_12 : decode b_OB_told 12 = .ok (.dup, 1) := by decide +kernel
theorem d_OB_told_13 : decode b_OB_told 13 = .ok (.ldc 144, 2) := by decide +kernel
theorem d_OB_told_15 : decode b_OB_told 15 = .ok (.invokespecial 87, 3) := by decide +kernel
theorem d_OB_told_18 : decode b_OB_told 18 = .ok (.athrow, 1) := by decide +kernel
theorem d_OB_told_19 : decode b_OB_told 19 = .ok (.iload_n 1, 1) := by decide +kernel
theorem d_OB_told_20 : decode b_OB_told 20 = .ok (.iconst 1, 1) := by decide +kernel
theorem d_OB_told_21 : decode b_OB_told 21 = .ok (.if_icmp .ne 11, 3) := by decide +kernel
theorem d_OB_told_24 : decode b_OB_told 24 = .ok (.aload_n 0, 1) := by decide +kernel
theorem d_OB_told_25 : decode b_OB_told 25 = .ok (.getfield 28, 3) := by decide +kernel
theorem d_OB_told_28 : decode b_OB_told 28 = .ok (.invokevirtual 146, 3) := by decide +kernel
theorem d_OB_told_31 : decode b_OB_told 31 = .ok (.ireturn, 1) := by decide +kernel
theorem d_OB_told_32 : decode b_OB_told 32 = .ok (.aload_n 0, 1) := by decide +kernel
theorem d_OB_told_33 : decode b_OB_told 33 = .ok (.getfield 28, 3) := by decide +kernel
theorem d_OB_told_36 : decode b_OB_told 36 = .ok (.invokevirtual 149, 3) := by decide +kernel
theorem d_OB_told_39 : decode b_OB_told 39 = .ok (.ifCond .ne 13, 3) := by decide +kernel
theorem d_OB_told_42 : decode b_OB_told 42 = .ok (.new 153, 3) := by decide +kernel
theorem d_OB_told_45 : decode b_OB_told 45 = .ok (.dup, 1) := by decide +kernel
theorem d_OB_told_46 : decode b_OB_told 46 = .ok (.ldc 155, 2) := by decide +kernel
theorem d_OB_told_48 : decode b_OB_told 48 = .ok (.invokespecial 157, 3) := by decide +kernel
theorem d_OB_told_51 : decode b_OB_told 51 = .ok (.athrow, 1) := by decide +kernel
theorem d_OB_told_52 : decode b_OB_told 52 = .ok (.aload_n 0, 1) := by decide +kernel
theorem d_OB_told_53 : decode b_OB_told 53 = .ok (.getfield 28, 3) := by decide +kernel
theorem d_OB_told_56 : decode b_OB_told 56 = .ok (.invokevirtual 158, 3) := by decide +kernel
theorem d_OB_told_59 : decode b_OB_told 59 = .ok (.ireturn, 1) := by decide +kernel
abbrev b_OB_value : ByteArray := prog_1_method_9_code
def y_OB_value : MethodName := ⟨ROB, "value", "(I)I"⟩
theorem k_OB_value : Cond.code y_OB_value b_OB_value 2 (some .int) ∈ tt := (tt3 75 rfl rfl)
theorem i_OB_value : Cond.instanceMethod y_OB_value ∈ tt := (tt3 73 rfl rfl)
theorem l_OB_value : Cond.selects ROB y_OB_value y_OB_value ∈ tt := (tt3 74 rfl rfl)
theorem d_OB_value_0 : decode b_OB_value 0 = .ok (.aload_n 0, 1) := by decide +kernel
theorem d_OB_value_1 : decode b_OB_value 1 = .ok (.iload_n 1, 1) := by decide +kernel
theorem d_OB_value_2 : decode b_OB_value 2 = .ok (.invokevirtual 88, 3) := by decide +kernel
theorem d_OB_value_5 : decode b_OB_value 5 = .ok (.ifCond .eq 13, 3) := by decide +kernel
theorem d_OB_value_8 : decode b_OB_value 8 = .ok (.new 83, 3) := by decide +kernel
theorem d_OB_value_11 : decode b_OB_value 11 = .ok (.dup, 1) := by decide +kernel
theorem d_OB_value_12 : decode b_OB_value 12 = .ok (.ldc 91, 2) := by decide +kernel
theorem d_OB_value_14 : decode b_OB_value 14 = .ok (.invokespecial 87, 3) := by decide +kernel
theorem d_OB_value_17 : decode b_OB_value 17 = .ok (.athrow, 1) := by decide +kernel
theorem d_OB_value_18 : decode b_OB_value 18 = .ok (.aload_n 0, 1) := by decide +kernel
theorem d_OB_value_19 : decode b_OB_value 19 = .ok (.getfield 28, 3) := by decide +kernel
theorem d_OB_value_22 : decode b_OB_value 22 = .ok (.invokevirtual 149, 3) := by decide +kernel
theorem d_OB_value_25 : decode b_OB_value 25 = .ok (.ifCond .ne 13, 3) := by decide +kernel
theorem d_OB_value_28 : decode b_OB_value 28 = .ok (.new 153, 3) := by decide +kernel
theorem d_OB_value_31 : decode b_OB_value 31 = .ok (.dup, 1) := by decide +kernel
theorem d_OB_value_32 : decode b_OB_value 32 = .ok (.ldc 155, 2) := by decide +kernel
theorem d_OB_value_34 : decode b_OB_value 34 = .ok (.invokespecial 157, 3) := by decide +kernel
theorem d_OB_value_37 : decode b_OB_value 37 = .ok (.athrow, 1) := by decide +kernel
theorem d_OB_value_38 : decode b_OB_value 38 = .ok (.aload_n 0, 1) := by decide +kernel
theorem d_OB_value_39 : decode b_OB_value 39 = .ok (.getfield 28, 3) := by decide +kernel
theorem d_OB_value_42 : decode b_OB_value 42 = .ok (.iload_n 1, 1) := by decide +kernel
theorem d_OB_value_43 : decode b_OB_value 43 = .ok (.invokevirtual 161, 3) := by decide +kernel
theorem d_OB_value_46 : decode b_OB_value 46 = .ok (.ireturn, 1) := by decide +kernel
abbrev b_OB_multiplier : ByteArray := prog_1_method_10_code
def y_OB_multiplier : MethodName := ⟨ROB, "multiplier", "(II)V"⟩
theorem k_OB_multiplier : Cond.code y_OB_multiplier b_OB_multiplier 4 none ∈ tt := (tt3 86 rfl rfl)
theorem i_OB_multiplier : Cond.instanceMethod y_OB_multiplier ∈ tt := (tt3 84 rfl rfl)
theorem l_OB_multiplier : Cond.selects ROB y_OB_multiplier y_OB_multiplier ∈ tt := (tt3 85 rfl rfl)
theorem d_OB_multiplier_0 : decode b_OB_multiplier 0 = .ok (.iload_n 1, 1) := by decide +kernel
theorem d_OB_multiplier_1 : decode b_OB_multiplier 1 = .ok (.ifCond .lt 14, 3) := by decide +kernel
theorem d_OB_multiplier_4 : decode b_OB_multiplier 4 = .ok (.iload_n 1, 1) := by decide +kernel
theorem d_OB_multiplier_5 : decode b_OB_multiplier 5 = .ok (.aload_n 0, 1) := by decide +kernel
theorem d_OB_multiplier_6 : decode b_OB_multiplier 6 = .ok (.getfield 19, 3) := by decide +kernel
theorem d_OB_multiplier_9 : decode b_OB_multiplier 9 = .ok (.invokevirtual 164, 3) := by decide +kernel
theorem d_OB_multiplier_12 : decode b_OB_multiplier 12 = .ok (.if_icmp .lt 13, 3) := by decide +kernel
theorem d_OB_multiplier_15 : decode b_OB_multiplier 15 = .ok (.new 83, 3) := by decide +kernel
theorem d_OB_multiplier_18 : decode b_OB_multiplier 18 = .ok (.dup, 1) := by decide +kernel
theorem d_OB_multiplier_19 : decode b_OB_multiplier 19 = .ok (.ldc 165, 2) := by decide +kernel
theorem d_OB_multiplier_21 : decode b_OB_multiplier 21 = .ok (.invokespecial 87, 3) := by decide +kernel
theorem d_OB_multiplier_24 : decode b_OB_multiplier 24 = .ok (.athrow, 1) := by decide +kernel
theorem d_OB_multiplier_25 : decode b_OB_multiplier 25 = .ok (.aload_n 0, 1) := by decide +kernel
theorem d_OB_multiplier_26 : decode b_OB_multiplier 26 = .ok (.getfield 19, 3) := by decide +kernel
theorem d_OB_multiplier_29 : decode b_OB_multiplier 29 = .ok (.iload_n 1, 1) := by decide +kernel
theorem d_OB_multiplier_30 : decode b_OB_multiplier 30 = .ok (.invokevirtual 95, 3) := by decide +kernel
theorem d_OB_multiplier_33 : decode b_OB_multiplier 33 = .ok (.astore_n 3, 1) := by decide +kernel
theorem d_OB_multiplier_34 : decode b_OB_multiplier 34 = .ok (.aload_n 3, 1) := by decide +kernel
theorem d_OB_multiplier_35 : decode b_OB_multiplier 35 = .ok (.iload_n 2, 1) := by decide +kernel
theorem d_OB_multiplier_36 : decode b_OB_multiplier 36 = .ok (.invokevirtual 167, 3) := by decide +kernel
theorem d_OB_multiplier_39 : decode b_OB_multiplier 39 = .ok (.ifCond .ne 13, 3) := by decide +kernel
theorem d_OB_multiplier_42 : decode b_OB_multiplier 42 = .ok (.new 39, 3) := by decide +kernel
theorem d_OB_multiplier_45 : decode b_OB_multiplier 45 = .ok (.dup, 1) := by decide +kernel
theorem d_OB_multiplier_46 : decode b_OB_multiplier 46 = .ok (.ldc 170, 2) := by decide +kernel
theorem d_OB_multiplier_48 : decode b_OB_multiplier 48 = .ok (.invokespecial 43, 3) := by decide +kernel
theorem d_OB_multiplier_51 : decode b_OB_multiplier 51 = .ok (.athrow, 1) := by decide +kernel
theorem d_OB_multiplier_52 : decode b_OB_multiplier 52 = .ok (.aload_n 3, 1) := by decide +kernel
theorem d_OB_multiplier_53 : decode b_OB_multiplier 53 = .ok (.iload_n 2, 1) := by decide +kernel
theorem d_OB_multiplier_54 : decode b_OB_multiplier 54 = .ok (.invokevirtual 172, 3) := by decide +kernel
theorem d_OB_multiplier_57 : decode b_OB_multiplier 57 = .ok (.return_, 1) := by decide +kernel
abbrev b_OB_certificate : ByteArray := prog_1_method_11_code
def y_OB_certificate : MethodName := ⟨ROB, "certificate", "()J"⟩
theorem k_OB_certificate : Cond.code y_OB_certificate b_OB_certificate 6 (some .long) ∈ tt := (tt1 153 rfl rfl)
theorem i_OB_certificate : Cond.instanceMethod y_OB_certificate ∈ tt := (tt1 151 rfl rfl)
theorem l_OB_certificate : Cond.selects ROB y_OB_certificate y_OB_certificate ∈ tt := (tt1 152 rfl rfl)
theorem d_OB_certificate_0 : decode b_OB_certificate 0 = .ok (.aload_n 0, 1) := by decide +kernel
theorem d_OB_certificate_1 : decode b_OB_certificate 1 = .ok (.getfield 19, 3) := by decide +kernel
theorem d_OB_certificate_4 : decode b_OB_certificate 4 = .ok (.invokevirtual 175, 3) := by decide +kernel
theorem d_OB_certificate_7 : decode b_OB_certificate 7 = .ok (.lstore_n 1, 1) := by decide +kernel
theorem d_OB_certificate_8 : decode b_OB_certificate 8 = .ok (.iconst 0, 1) := by decide +kernel
theorem d_OB_certificate_9 : decode b_OB_certificate 9 = .ok (.istore_n 3, 1) := by decide +kernel
theorem d_OB_certificate_10 : decode b_OB_certificate 10 = .ok (.iload_n 3, 1) := by decide +kernel
theorem d_OB_certificate_11 : decode b_OB_certificate 11 = .ok (.aload_n 0, 1) := by decide +kernel
theorem d_OB_certificate_12 : decode b_OB_certificate 12 = .ok (.getfield 10, 3) := by decide +kernel
theorem d_OB_certificate_15 : decode b_OB_certificate 15 = .ok (.invokevirtual 48, 3) := by decide +kernel
theorem d_OB_certificate_18 : decode b_OB_certificate 18 = .ok (.if_icmp .ge 55, 3) := by decide +kernel
theorem d_OB_certificate_21 : decode b_OB_certificate 21 = .ok (.ldc2_w 179, 3) := by decide +kernel
theorem d_OB_certificate_24 : decode b_OB_certificate 24 = .ok (.aload_n 0, 1) := by decide +kernel
theorem d_OB_certificate_25 : decode b_OB_certificate 25 = .ok (.getfield 10, 3) := by decide +kernel
theorem d_OB_certificate_28 : decode b_OB_certificate 28 = .ok (.iload_n 3, 1) := by decide +kernel
theorem d_OB_certificate_29 : decode b_OB_certificate 29 = .ok (.invokevirtual 181, 3) := by decide +kernel
theorem d_OB_certificate_32 : decode b_OB_certificate 32 = .ok (.i2l, 1) := by decide +kernel
theorem d_OB_certificate_33 : decode b_OB_certificate 33 = .ok (.lmul, 1) := by decide +kernel
theorem d_OB_certificate_34 : decode b_OB_certificate 34 = .ok (.aload_n 0, 1) := by decide +kernel
theorem d_OB_certificate_35 : decode b_OB_certificate 35 = .ok (.getfield 19, 3) := by decide +kernel
theorem d_OB_certificate_38 : decode b_OB_certificate 38 = .ok (.iload_n 3, 1) := by decide +kernel
theorem d_OB_certificate_39 : decode b_OB_certificate 39 = .ok (.invokevirtual 184, 3) := by decide +kernel
theorem d_OB_certificate_42 : decode b_OB_certificate 42 = .ok (.lsub, 1) := by decide +kernel
theorem d_OB_certificate_43 : decode b_OB_certificate 43 = .ok (.lstore 4, 2) := by decide +kernel
theorem d_OB_certificate_45 : decode b_OB_certificate 45 = .ok (.lload 4, 2) := by decide +kernel
theorem d_OB_certificate_47 : decode b_OB_certificate 47 = .ok (.lconst 0, 1) := by decide +kernel
theorem d_OB_certificate_48 : decode b_OB_certificate 48 = .ok (.lcmp, 1) := by decide +kernel
theorem d_OB_certificate_49 : decode b_OB_certificate 49 = .ok (.ifCond .le 18, 3) := by decide +kernel
theorem d_OB_certificate_52 : decode b_OB_certificate 52 = .ok (.lload_n 1, 1) := by decide +kernel
theorem d_OB_certificate_53 : decode b_OB_certificate 53 = .ok (.aload_n 0, 1) := by decide +kernel
theorem d_OB_certificate_54 : decode b_OB_certificate 54 = .ok (.getfield 10, 3) := by decide +kernel
theorem d_OB_certificate_57 : decode b_OB_certificate 57 = .ok (.iload_n 3, 1) := by decide +kernel
theorem d_OB_certificate_58 : decode b_OB_certificate 58 = .ok (.invokevirtual 125, 3) := by decide +kernel
theorem d_OB_certificate_61 : decode b_OB_certificate 61 = .ok (.i2l, 1) := by decide +kernel
theorem d_OB_certificate_62 : decode b_OB_certificate 62 = .ok (.lload 4, 2) := by decide +kernel
theorem d_OB_certificate_64 : decode b_OB_certificate 64 = .ok (.lmul, 1) := by decide +kernel
theorem d_OB_certificate_65 : decode b_OB_certificate 65 = .ok (.ladd, 1) := by decide +kernel
theorem d_OB_certificate_66 : decode b_OB_certificate 66 = .ok (.lstore_n 1, 1) := by decide +kernel
theorem d_OB_certificate_67 : decode b_OB_certificate 67 = .ok (.iinc 3 1, 3) := by decide +kernel
theorem d_OB_certificate_70 : decode b_OB_certificate 70 = .ok (.goto (-60), 3) := by decide +kernel
theorem d_OB_certificate_73 : decode b_OB_certificate 73 = .ok (.lload_n 1, 1) := by decide +kernel
theorem d_OB_certificate_74 : decode b_OB_certificate 74 = .ok (.ldc2_w 179, 3) := by decide +kernel
theorem d_OB_certificate_77 : decode b_OB_certificate 77 = .ok (.invokestatic 188, 3) := by decide +kernel
theorem d_OB_certificate_80 : decode b_OB_certificate 80 = .ok (.lreturn, 1) := by decide +kernel
abbrev b_OB_contradiction : ByteArray := prog_1_method_12_code
def y_OB_contradiction : MethodName := ⟨ROB, "contradiction", "()I"⟩
theorem k_OB_contradiction : Cond.code y_OB_contradiction b_OB_contradiction 2 (some .int) ∈ tt := (tt1 201 rfl rfl)
theorem i_OB_contradiction : Cond.instanceMethod y_OB_contradiction ∈ tt := (tt1 199 rfl rfl)
theorem l_OB_contradiction : Cond.selects ROB y_OB_contradiction y_OB_contradiction ∈ tt := (tt1 200 rfl rfl)
theorem d_OB_contradiction_0 : decode b_OB_contradiction 0 = .ok (.iconst 0, 1) := by decide +kernel
theorem d_OB_contradiction_1 : decode b_OB_contradiction 1 = .ok (.istore_n 1, 1) := by decide +kernel
theorem d_OB_contradiction_2 : decode b_OB_contradiction 2 = .ok (.iload_n 1, 1) := by decide +kernel
theorem d_OB_contradiction_3 : decode b_OB_contradiction 3 = .ok (.aload_n 0, 1) := by decide +kernel
theorem d_OB_contradiction_4 : decode b_OB_contradiction 4 = .ok (.getfield 19, 3) := by decide +kernel
theorem d_OB_contradiction_7 : decode b_OB_contradiction 7 = .ok (.invokevirtual 164, 3) := by decide +kernel
theorem d_OB_contradiction_10 : decode b_OB_contradiction 10 = .ok (.if_icmp .ge 29, 3) := by decide +kernel
theorem d_OB_contradiction_13 : decode b_OB_contradiction 13 = .ok (.aload_n 0, 1) := by decide +kernel
theorem d_OB_contradiction_14 : decode b_OB_contradiction 14 = .ok (.getfield 19, 3) := by decide +kernel
theorem d_OB_contradiction_17 : decode b_OB_contradiction 17 = .ok (.iload_n 1, 1) := by decide +kernel
theorem d_OB_contradiction_18 : decode b_OB_contradiction 18 = .ok (.invokevirtual 95, 3) := by decide +kernel
theorem d_OB_contradiction_21 : decode b_OB_contradiction 21 = .ok (.aload_n 0, 1) := by decide +kernel
theorem d_OB_contradiction_22 : decode b_OB_contradiction 22 = .ok (.getfield 10, 3) := by decide +kernel
theorem d_OB_contradiction_25 : decode b_OB_contradiction 25 = .ok (.invokevirtual 192, 3) := by decide +kernel
theorem d_OB_contradiction_28 : decode b_OB_contradiction 28 = .ok (.ifCond .ne 5, 3) := by decide +kernel
theorem d_OB_contradiction_31 : decode b_OB_contradiction 31 = .ok (.iload_n 1, 1) := by decide +kernel
theorem d_OB_contradiction_32 : decode b_OB_contradiction 32 = .ok (.ireturn, 1) := by decide +kernel
theorem d_OB_contradiction_33 : decode b_OB_contradiction 33 = .ok (.iinc 1 1, 3) := by decide +kernel
theorem d_OB_contradiction_36 : decode b_OB_contradiction 36 = .ok (.goto (-34), 3) := by decide +kernel
theorem d_OB_contradiction_39 : decode b_OB_contradiction 39 = .ok (.iconst (-1), 1) := by decide +kernel
theorem d_OB_contradiction_40 : decode b_OB_contradiction 40 = .ok (.ireturn, 1) := by decide +kernel
abbrev b_OB_check : ByteArray := prog_1_method_13_code
def y_OB_check : MethodName := ⟨ROB, "check", "(I)I"⟩
theorem k_OB_check : Cond.code y_OB_check b_OB_check 3 (some .int) ∈ tt := (tt1 227 rfl rfl)
theorem i_OB_check : Cond.instanceMethod y_OB_check ∈ tt := (tt1 225 rfl rfl)
theorem l_OB_check : Cond.selects ROB y_OB_check y_OB_check ∈ tt := (tt1 226 rfl rfl)
theorem d_OB_check_0 : decode b_OB_check 0 = .ok (.iconst 0, 1) := by decide +kernel
theorem d_OB_check_1 : decode b_OB_check 1 = .ok (.istore_n 2, 1) := by decide +kernel
theorem d_OB_check_2 : decode b_OB_check 2 = .ok (.iload_n 2, 1) := by decide +kernel
theorem d_OB_check_3 : decode b_OB_check 3 = .ok (.aload_n 0, 1) := by decide +kernel
theorem d_OB_check_4 : decode b_OB_check 4 = .ok (.getfield 10, 3) := by decide +kernel
theorem d_OB_check_7 : decode b_OB_check 7 = .ok (.invokevirtual 48, 3) := by decide +kernel
theorem d_OB_check_10 : decode b_OB_check 10 = .ok (.if_icmp .ge 29, 3) := by decide +kernel
theorem d_OB_check_13 : decode b_OB_check 13 = .ok (.iload_n 1, 1) := by decide +kernel
theorem d_OB_check_14 : decode b_OB_check 14 = .ok (.iload_n 2, 1) := by decide +kernel
theorem d_OB_check_15 : decode b_OB_check 15 = .ok (.invokestatic 196, 3) := by decide +kernel
theorem d_OB_check_18 : decode b_OB_check 18 = .ok (.aload_n 0, 1) := by decide +kernel
theorem d_OB_check_19 : decode b_OB_check 19 = .ok (.getfield 10, 3) := by decide +kernel
theorem d_OB_check_22 : decode b_OB_check 22 = .ok (.iload_n 2, 1) := by decide +kernel
theorem d_OB_check_23 : decode b_OB_check 23 = .ok (.invokevirtual 125, 3) := by decide +kernel
theorem d_OB_check_26 : decode b_OB_check 26 = .ok (.if_icmp .le 7, 3) := by decide +kernel
theorem d_OB_check_29 : decode b_OB_check 29 = .ok (.iconst 1, 1) := by decide +kernel
theorem d_OB_check_30 : decode b_OB_check 30 = .ok (.iload_n 2, 1) := by decide +kernel
theorem d_OB_check_31 : decode b_OB_check 31 = .ok (.iadd, 1) := by decide +kernel
theorem d_OB_check_32 : decode b_OB_check 32 = .ok (.ireturn, 1) := by decide +kernel
theorem d_OB_check_33 : decode b_OB_check 33 = .ok (.iinc 2 1, 3) := by decide +kernel
theorem d_OB_check_36 : decode b_OB_check 36 = .ok (.goto (-34), 3) := by decide +kernel
theorem d_OB_check_39 : decode b_OB_check 39 = .ok (.iconst 0, 1) := by decide +kernel
theorem d_OB_check_40 : decode b_OB_check 40 = .ok (.istore_n 2, 1) := by decide +kernel
theorem d_OB_check_41 : decode b_OB_check 41 = .ok (.iload_n 2, 1) := by decide +kernel
theorem d_OB_check_42 : decode b_OB_check 42 = .ok (.aload_n 0, 1) := by decide +kernel
theorem d_OB_check_43 : decode b_OB_check 43 = .ok (.getfield 19, 3) := by decide +kernel
theorem d_OB_check_46 : decode b_OB_check 46 = .ok (.invokevirtual 164, 3) := by decide +kernel
theorem d_OB_check_49 : decode b_OB_check 49 = .ok (.if_icmp .ge 41, 3) := by decide +kernel
theorem d_OB_check_52 : decode b_OB_check 52 = .ok (.aload_n 0, 1) := by decide +kernel
theorem d_OB_check_53 : decode b_OB_check 53 = .ok (.getfield 19, 3) := by decide +kernel
theorem d_OB_check_56 : decode b_OB_check 56 = .ok (.iload_n 2, 1) := by decide +kernel
theorem d_OB_check_57 : decode b_OB_check 57 = .ok (.invokevirtual 95, 3) := by decide +kernel
theorem d_OB_check_60 : decode b_OB_check 60 = .ok (.aload_n 0, 1) := by decide +kernel
theorem d_OB_check_61 : decode b_OB_check 61 = .ok (.iload_n 1, 1) := by decide +kernel
theorem d_OB_check_62 : decode b_OB_check 62 = .ok (.aload_n 0, 1) := by decide +kernel
theorem d_OB_check_63 : decode b_OB_check 63 = .ok (.getfield 19, 3) := by decide +kernel
theorem d_OB_check_66 : decode b_OB_check 66 = .ok (.iload_n 2, 1) := by decide +kernel
theorem d_OB_check_67 : decode b_OB_check 67 = .ok (.invokevirtual 95, 3) := by decide +kernel
theorem d_OB_check_70 : decode b_OB_check 70 = .ok (.invokevirtual 199, 3) := by decide +kernel
theorem d_OB_check_73 : decode b_OB_check 73 = .ok (.invokevirtual 203, 3) := by decide +kernel
theorem d_OB_check_76 : decode b_OB_check 76 = .ok (.ifCond .ne 8, 3) := by decide +kernel
theorem d_OB_check_79 : decode b_OB_check 79 = .ok (.bipush 101, 2) := by decide +kernel
theorem d_OB_check_81 : decode b_OB_check 81 = .ok (.iload_n 2, 1) := by decide +kernel
theorem d_OB_check_82 : decode b_OB_check 82 = .ok (.iadd, 1) := by decide +kernel
theorem d_OB_check_83 : decode b_OB_check 83 = .ok (.ireturn, 1) := by decide +kernel
theorem d_OB_check_84 : decode b_OB_check 84 = .ok (.iinc 2 1, 3) := by decide +kernel
theorem d_OB_check_87 : decode b_OB_check 87 = .ok (.goto (-46), 3) := by decide +kernel
theorem d_OB_check_90 : decode b_OB_check 90 = .ok (.iconst 0, 1) := by decide +kernel
theorem d_OB_check_91 : decode b_OB_check 91 = .ok (.ireturn, 1) := by decide +kernel
abbrev b_OB_follow : ByteArray := prog_1_method_14_code
def y_OB_follow : MethodName := ⟨ROB, "follow", "(II)I"⟩
theorem k_OB_follow : Cond.code y_OB_follow b_OB_follow 3 (some .int) ∈ tt := (tt3 102 rfl rfl)
theorem i_OB_follow : Cond.instanceMethod y_OB_follow ∈ tt := (tt3 100 rfl rfl)
theorem l_OB_follow : Cond.selects ROB y_OB_follow y_OB_follow ∈ tt := (tt3 101 rfl rfl)
theorem d_OB_follow_0 : decode b_OB_follow 0 = .ok (.aload_n 0, 1) := by decide +kernel
theorem d_OB_follow_1 : decode b_OB_follow 1 = .ok (.iload_n 1, 1) := by decide +kernel
theorem d_OB_follow_2 : decode b_OB_follow 2 = .ok (.iload_n 2, 1) := by decide +kernel
theorem d_OB_follow_3 : decode b_OB_follow 3 = .ok (.invokevirtual 109, 3) := by decide +kernel
theorem d_OB_follow_6 : decode b_OB_follow 6 = .ok (.ifCond .eq 13, 3) := by decide +kernel
theorem d_OB_follow_9 : decode b_OB_follow 9 = .ok (.new 83, 3) := by decide +kernel
theorem d_OB_follow_12 : decode b_OB_follow 12 = .ok (.dup, 1) := by decide +kernel
theorem d_OB_follow_13 : decode b_OB_follow 13 = .ok (.ldc 113, 2) := by decide +kernel
theorem d_OB_follow_15 : decode b_OB_follow 15 = .ok (.invokespecial 87, 3) := by decide +kernel
theorem d_OB_follow_18 : decode b_OB_follow 18 = .ok (.athrow, 1) := by decide +kernel
theorem d_OB_follow_19 : decode b_OB_follow 19 = .ok (.aload_n 0, 1) := by decide +kernel
theorem d_OB_follow_20 : decode b_OB_follow 20 = .ok (.getfield 35, 3) := by decide +kernel
theorem d_OB_follow_23 : decode b_OB_follow 23 = .ok (.invokevirtual 206, 3) := by decide +kernel
theorem d_OB_follow_26 : decode b_OB_follow 26 = .ok (.bipush 10, 2) := by decide +kernel
theorem d_OB_follow_28 : decode b_OB_follow 28 = .ok (.if_icmp .lt 13, 3) := by decide +kernel
theorem d_OB_follow_31 : decode b_OB_follow 31 = .ok (.new 52, 3) := by decide +kernel
theorem d_OB_follow_34 : decode b_OB_follow 34 = .ok (.dup, 1) := by decide +kernel
theorem d_OB_follow_35 : decode b_OB_follow 35 = .ok (.ldc 207, 2) := by decide +kernel
theorem d_OB_follow_37 : decode b_OB_follow 37 = .ok (.invokespecial 56, 3) := by decide +kernel
theorem d_OB_follow_40 : decode b_OB_follow 40 = .ok (.athrow, 1) := by decide +kernel
theorem d_OB_follow_41 : decode b_OB_follow 41 = .ok (.aload_n 0, 1) := by decide +kernel
theorem d_OB_follow_42 : decode b_OB_follow 42 = .ok (.getfield 35, 3) := by decide +kernel
theorem d_OB_follow_45 : decode b_OB_follow 45 = .ok (.iload_n 1, 1) := by decide +kernel
theorem d_OB_follow_46 : decode b_OB_follow 46 = .ok (.iload_n 2, 1) := by decide +kernel
theorem d_OB_follow_47 : decode b_OB_follow 47 = .ok (.invokevirtual 209, 3) := by decide +kernel
theorem d_OB_follow_50 : decode b_OB_follow 50 = .ok (.ifCond .eq 13, 3) := by decide +kernel
theorem d_OB_follow_53 : decode b_OB_follow 53 = .ok (.new 52, 3) := by decide +kernel
theorem d_OB_follow_56 : decode b_OB_follow 56 = .ok (.dup, 1) := by decide +kernel
theorem d_OB_follow_57 : decode b_OB_follow 57 = .ok (.ldc 212, 2) := by decide +kernel
theorem d_OB_follow_59 : decode b_OB_follow 59 = .ok (.invokespecial 56, 3) := by decide +kernel
theorem d_OB_follow_62 : decode b_OB_follow 62 = .ok (.athrow, 1) := by decide +kernel
theorem d_OB_follow_63 : decode b_OB_follow 63 = .ok (.aload_n 0, 1) := by decide +kernel
theorem d_OB_follow_64 : decode b_OB_follow 64 = .ok (.getfield 35, 3) := by decide +kernel
theorem d_OB_follow_67 : decode b_OB_follow 67 = .ok (.iload_n 1, 1) := by decide +kernel
theorem d_OB_follow_68 : decode b_OB_follow 68 = .ok (.iload_n 2, 1) := by decide +kernel
theorem d_OB_follow_69 : decode b_OB_follow 69 = .ok (.invokevirtual 214, 3) := by decide +kernel
theorem d_OB_follow_72 : decode b_OB_follow 72 = .ok (.ireturn, 1) := by decide +kernel
abbrev b_OB_chain : ByteArray := prog_1_method_15_code
def y_OB_chain : MethodName := ⟨ROB, "chain", "(I)I"⟩
theorem k_OB_chain : Cond.code y_OB_chain b_OB_chain 2 (some .int) ∈ tt := (tt3 126 rfl rfl)
theorem i_OB_chain : Cond.instanceMethod y_OB_chain ∈ tt := (tt3 124 rfl rfl)
theorem l_OB_chain : Cond.selects ROB y_OB_chain y_OB_chain ∈ tt := (tt3 125 rfl rfl)
theorem d_OB_chain_0 : decode b_OB_chain 0 = .ok (.iload_n 1, 1) := by decide +kernel
theorem d_OB_chain_1 : decode b_OB_chain 1 = .ok (.ifCond .ge 13, 3) := by decide +kernel
theorem d_OB_chain_4 : decode b_OB_chain 4 = .ok (.new 83, 3) := by decide +kernel
theorem d_OB_chain_7 : decode b_OB_chain 7 = .ok (.dup, 1) := by decide +kernel
theorem d_OB_chain_8 : decode b_OB_chain 8 = .ok (.ldc 215, 2) := by decide +kernel
theorem d_OB_chain_10 : decode b_OB_chain 10 = .ok (.invokespecial 87, 3) := by decide +kernel
theorem d_OB_chain_13 : decode b_OB_chain 13 = .ok (.athrow, 1) := by decide +kernel
theorem d_OB_chain_14 : decode b_OB_chain 14 = .ok (.aload_n 0, 1) := by decide +kernel
theorem d_OB_chain_15 : decode b_OB_chain 15 = .ok (.getfield 35, 3) := by decide +kernel
theorem d_OB_chain_18 : decode b_OB_chain 18 = .ok (.iload_n 1, 1) := by decide +kernel
theorem d_OB_chain_19 : decode b_OB_chain 19 = .ok (.aload_n 0, 1) := by decide +kernel
theorem d_OB_chain_20 : decode b_OB_chain 20 = .ok (.getfield 10, 3) := by decide +kernel
theorem d_OB_chain_23 : decode b_OB_chain 23 = .ok (.invokevirtual 48, 3) := by decide +kernel
theorem d_OB_chain_26 : decode b_OB_chain 26 = .ok (.invokevirtual 217, 3) := by decide +kernel
theorem d_OB_chain_29 : decode b_OB_chain 29 = .ok (.ireturn, 1) := by decide +kernel
abbrev b_OB_isNoColumn : ByteArray := prog_1_method_16_code
def y_OB_isNoColumn : MethodName := ⟨ROB, "isNoColumn", "(I)Z"⟩
theorem k_OB_isNoColumn : Cond.code y_OB_isNoColumn b_OB_isNoColumn 2 (some .boolean) ∈ tt := (tt2 180 rfl rfl)
theorem i_OB_isNoColumn : Cond.instanceMethod y_OB_isNoColumn ∈ tt := (tt2 179 rfl rfl)
theorem l_OB_isNoColumn : Cond.selects ROB y_OB_isNoColumn y_OB_isNoColumn ∈ tt := (tt0 5 rfl rfl)
theorem d_OB_isNoColumn_0 : decode b_OB_isNoColumn 0 = .ok (.iload_n 1, 1) := by decide +kernel
theorem d_OB_isNoColumn_1 : decode b_OB_isNoColumn 1 = .ok (.ifCond .lt 14, 3) := by decide +kernel
theorem d_OB_isNoColumn_4 : decode b_OB_isNoColumn 4 = .ok (.iload_n 1, 1) := by decide +kernel
theorem d_OB_isNoColumn_5 : decode b_OB_isNoColumn 5 = .ok (.aload_n 0, 1) := by decide +kernel
theorem d_OB_isNoColumn_6 : decode b_OB_isNoColumn 6 = .ok (.getfield 10, 3) := by decide +kernel
theorem d_OB_isNoColumn_9 : decode b_OB_isNoColumn 9 = .ok (.invokevirtual 48, 3) := by decide +kernel
theorem d_OB_isNoColumn_12 : decode b_OB_isNoColumn 12 = .ok (.if_icmp .lt 7, 3) := by decide +kernel
theorem d_OB_isNoColumn_15 : decode b_OB_isNoColumn 15 = .ok (.iconst 1, 1) := by decide +kernel
theorem d_OB_isNoColumn_16 : decode b_OB_isNoColumn 16 = .ok (.goto 4, 3) := by decide +kernel
theorem d_OB_isNoColumn_19 : decode b_OB_isNoColumn 19 = .ok (.iconst 0, 1) := by decide +kernel
theorem d_OB_isNoColumn_20 : decode b_OB_isNoColumn 20 = .ok (.ireturn, 1) := by decide +kernel
abbrev b_OB_isNoRow : ByteArray := prog_1_method_17_code
def y_OB_isNoRow : MethodName := ⟨ROB, "isNoRow", "(I)Z"⟩
theorem k_OB_isNoRow : Cond.code y_OB_isNoRow b_OB_isNoRow 2 (some .boolean) ∈ tt := (tt2 160 rfl rfl)
theorem i_OB_isNoRow : Cond.instanceMethod y_OB_isNoRow ∈ tt := (tt2 159 rfl rfl)
theorem l_OB_isNoRow : Cond.selects ROB y_OB_isNoRow y_OB_isNoRow ∈ tt := (tt0 4 rfl rfl)
theorem d_OB_isNoRow_0 : decode b_OB_isNoRow 0 = .ok (.iload_n 1, 1) := by decide +kernel
theorem d_OB_isNoRow_1 : decode b_OB_isNoRow 1 = .ok (.ifCond .lt 14, 3) := by decide +kernel
theorem d_OB_isNoRow_4 : decode b_OB_isNoRow 4 = .ok (.iload_n 1, 1) := by decide +kernel
theorem d_OB_isNoRow_5 : decode b_OB_isNoRow 5 = .ok (.aload_n 0, 1) := by decide +kernel
theorem d_OB_isNoRow_6 : decode b_OB_isNoRow 6 = .ok (.getfield 19, 3) := by decide +kernel
theorem d_OB_isNoRow_9 : decode b_OB_isNoRow 9 = .ok (.invokevirtual 72, 3) := by decide +kernel
theorem d_OB_isNoRow_12 : decode b_OB_isNoRow 12 = .ok (.if_icmp .lt 7, 3) := by decide +kernel
theorem d_OB_isNoRow_15 : decode b_OB_isNoRow 15 = .ok (.iconst 1, 1) := by decide +kernel
theorem d_OB_isNoRow_16 : decode b_OB_isNoRow 16 = .ok (.goto 4, 3) := by decide +kernel
theorem d_OB_isNoRow_19 : decode b_OB_isNoRow 19 = .ok (.iconst 0, 1) := by decide +kernel
theorem d_OB_isNoRow_20 : decode b_OB_isNoRow 20 = .ok (.ireturn, 1) := by decide +kernel
abbrev b_OB_isNoPair : ByteArray := prog_1_method_18_code
def y_OB_isNoPair : MethodName := ⟨ROB, "isNoPair", "(II)Z"⟩
theorem k_OB_isNoPair : Cond.code y_OB_isNoPair b_OB_isNoPair 3 (some .boolean) ∈ tt := (tt2 205 rfl rfl)
theorem i_OB_isNoPair : Cond.instanceMethod y_OB_isNoPair ∈ tt := (tt2 204 rfl rfl)
theorem l_OB_isNoPair : Cond.selects ROB y_OB_isNoPair y_OB_isNoPair ∈ tt := (tt0 6 rfl rfl)
theorem d_OB_isNoPair_0 : decode b_OB_isNoPair 0 = .ok (.aload_n 0, 1) := by decide +kernel
theorem d_OB_isNoPair_1 : decode b_OB_isNoPair 1 = .ok (.iload_n 1, 1) := by decide +kernel
theorem d_OB_isNoPair_2 : decode b_OB_isNoPair 2 = .ok (.invokevirtual 88, 3) := by decide +kernel
theorem d_OB_isNoPair_5 : decode b_OB_isNoPair 5 = .ok (.ifCond .ne 16, 3) := by decide +kernel
theorem d_OB_isNoPair_8 : decode b_OB_isNoPair 8 = .ok (.aload_n 0, 1) := by decide +kernel
theorem d_OB_isNoPair_9 : decode b_OB_isNoPair 9 = .ok (.iload_n 2, 1) := by decide +kernel
theorem d_OB_isNoPair_10 : decode b_OB_isNoPair 10 = .ok (.invokevirtual 88, 3) := by decide +kernel
theorem d_OB_isNoPair_13 : decode b_OB_isNoPair 13 = .ok (.ifCond .ne 8, 3) := by decide +kernel
theorem d_OB_isNoPair_16 : decode b_OB_isNoPair 16 = .ok (.iload_n 1, 1) := by decide +kernel
theorem d_OB_isNoPair_17 : decode b_OB_isNoPair 17 = .ok (.iload_n 2, 1) := by decide +kernel
theorem d_OB_isNoPair_18 : decode b_OB_isNoPair 18 = .ok (.if_icmp .ne 7, 3) := by decide +kernel
theorem d_OB_isNoPair_21 : decode b_OB_isNoPair 21 = .ok (.iconst 1, 1) := by decide +kernel
theorem d_OB_isNoPair_22 : decode b_OB_isNoPair 22 = .ok (.goto 4, 3) := by decide +kernel
theorem d_OB_isNoPair_25 : decode b_OB_isNoPair 25 = .ok (.iconst 0, 1) := by decide +kernel
theorem d_OB_isNoPair_26 : decode b_OB_isNoPair 26 = .ok (.ireturn, 1) := by decide +kernel
abbrev b_OB_isNoRight : ByteArray := prog_1_method_19_code
def y_OB_isNoRight : MethodName := ⟨ROB, "isNoRight", "(I)Z"⟩
theorem k_OB_isNoRight : Cond.code y_OB_isNoRight b_OB_isNoRight 1 (some .boolean) ∈ tt := (tt2 122 rfl rfl)
theorem s_OB_isNoRight : Cond.static y_OB_isNoRight ∈ tt := (tt2 121 rfl rfl)
theorem d_OB_isNoRight_0 : decode b_OB_isNoRight 0 = .ok (.iload_n 0, 1) := by decide +kernel
theorem d_OB_isNoRight_1 : decode b_OB_isNoRight 1 = .ok (.sipush (-10000), 3) := by decide +kernel
theorem d_OB_isNoRight_4 : decode b_OB_isNoRight 4 = .ok (.if_icmp .lt 10, 3) := by decide +kernel
theorem d_OB_isNoRight_7 : decode b_OB_isNoRight 7 = .ok (.iload_n 0, 1) := by decide +kernel
theorem d_OB_isNoRight_8 : decode b_OB_isNoRight 8 = .ok (.sipush 10000, 3) := by decide +kernel
theorem d_OB_isNoRight_11 : decode b_OB_isNoRight 11 = .ok (.if_icmp .le 7, 3) := by decide +kernel
theorem d_OB_isNoRight_14 : decode b_OB_isNoRight 14 = .ok (.iconst 1, 1) := by decide +kernel
theorem d_OB_isNoRight_15 : decode b_OB_isNoRight 15 = .ok (.goto 4, 3) := by decide +kernel
theorem d_OB_isNoRight_18 : decode b_OB_isNoRight 18 = .ok (.iconst 0, 1) := by decide +kernel
theorem d_OB_isNoRight_19 : decode b_OB_isNoRight 19 = .ok (.ireturn, 1) := by decide +kernel
abbrev b_OB_packedNumber : ByteArray := prog_1_method_20_code
def y_OB_packedNumber : MethodName := ⟨ROB, "packedNumber", "(II)I"⟩
theorem k_OB_packedNumber : Cond.code y_OB_packedNumber b_OB_packedNumber 2 (some .int) ∈ tt := (tt1 230 rfl rfl)
theorem s_OB_packedNumber : Cond.static y_OB_packedNumber ∈ tt := (tt1 229 rfl rfl)
theorem d_OB_packedNumber_0 : decode b_OB_packedNumber 0 = .ok (.iload_n 0, 1) := by decide +kernel
theorem d_OB_packedNumber_1 : decode b_OB_packedNumber 1 = .ok (.bipush 6, 2) := by decide +kernel
theorem d_OB_packedNumber_3 : decode b_OB_packedNumber 3 = .ok (.iload_n 1, 1) := by decide +kernel
theorem d_OB_packedNumber_4 : decode b_OB_packedNumber 4 = .ok (.imul, 1) := by decide +kernel
theorem d_OB_packedNumber_5 : decode b_OB_packedNumber 5 = .ok (.iushr, 1) := by decide +kernel
theorem d_OB_packedNumber_6 : decode b_OB_packedNumber 6 = .ok (.bipush 63, 2) := by decide +kernel
theorem d_OB_packedNumber_8 : decode b_OB_packedNumber 8 = .ok (.iand, 1) := by decide +kernel
theorem d_OB_packedNumber_9 : decode b_OB_packedNumber 9 = .ok (.ireturn, 1) := by decide +kernel
abbrev b_OB_packedSum : ByteArray := prog_1_method_21_code
def y_OB_packedSum : MethodName := ⟨ROB, "packedSum", "(ILOrderBounds$Line;)I"⟩
theorem k_OB_packedSum : Cond.code y_OB_packedSum b_OB_packedSum 5 (some .int) ∈ tt := (tt1 234 rfl rfl)
theorem i_OB_packedSum : Cond.instanceMethod y_OB_packedSum ∈ tt := (tt1 233 rfl rfl)
theorem l_OB_packedSum : Cond.selects ROB y_OB_packedSum y_OB_packedSum ∈ tt := (tt0 1 rfl rfl)
theorem d_OB_packedSum_0 : decode b_OB_packedSum 0 = .ok (.iconst 0, 1) := by decide +kernel
theorem d_OB_packedSum_1 : decode b_OB_packedSum 1 = .ok (.istore_n 3, 1) := by decide +kernel
theorem d_OB_packedSum_2 : decode b_OB_packedSum 2 = .ok (.iconst 0, 1) := by decide +kernel
theorem d_OB_packedSum_3 : decode b_OB_packedSum 3 = .ok (.istore 4, 2) := by decide +kernel
theorem d_OB_packedSum_5 : decode b_OB_packedSum 5 = .ok (.iload 4, 2) := by decide +kernel
theorem d_OB_packedSum_7 : decode b_OB_packedSum 7 = .ok (.aload_n 0, 1) := by decide +kernel
theorem d_OB_packedSum_8 : decode b_OB_packedSum 8 = .ok (.getfield 10, 3) := by decide +kernel
theorem d_OB_packedSum_11 : decode b_OB_packedSum 11 = .ok (.invokevirtual 48, 3) := by decide +kernel
theorem d_OB_packedSum_14 : decode b_OB_packedSum 14 = .ok (.if_icmp .ge 25, 3) := by decide +kernel
theorem d_OB_packedSum_17 : decode b_OB_packedSum 17 = .ok (.iload_n 3, 1) := by decide +kernel
theorem d_OB_packedSum_18 : decode b_OB_packedSum 18 = .ok (.aload_n 2, 1) := by decide +kernel
theorem d_OB_packedSum_19 : decode b_OB_packedSum 19 = .ok (.iload 4, 2) := by decide +kernel
theorem d_OB_packedSum_21 : decode b_OB_packedSum 21 = .ok (.invokevirtual 220, 3) := by decide +kernel
theorem d_OB_packedSum_24 : decode b_OB_packedSum 24 = .ok (.iload_n 1, 1) := by decide +kernel
theorem d_OB_packedSum_25 : decode b_OB_packedSum 25 = .ok (.iload 4, 2) := by decide +kernel
theorem d_OB_packedSum_27 : decode b_OB_packedSum 27 = .ok (.invokestatic 196, 3) := by decide +kernel
theorem d_OB_packedSum_30 : decode b_OB_packedSum 30 = .ok (.imul, 1) := by decide +kernel
theorem d_OB_packedSum_31 : decode b_OB_packedSum 31 = .ok (.iadd, 1) := by decide +kernel
theorem d_OB_packedSum_32 : decode b_OB_packedSum 32 = .ok (.istore_n 3, 1) := by decide +kernel
theorem d_OB_packedSum_33 : decode b_OB_packedSum 33 = .ok (.iinc 4 1, 3) := by decide +kernel
theorem d_OB_packedSum_36 : decode b_OB_packedSum 36 = .ok (.goto (-31), 3) := by decide +kernel
theorem d_OB_packedSum_39 : decode b_OB_packedSum 39 = .ok (.iload_n 3, 1) := by decide +kernel
theorem d_OB_packedSum_40 : decode b_OB_packedSum 40 = .ok (.ireturn, 1) := by decide +kernel
abbrev b_Fo_init : ByteArray := prog_3_method_1_code
def y_Fo_init : MethodName := ⟨RFo, "<init>", "()V"⟩
theorem k_Fo_init : Cond.code y_Fo_init b_Fo_init 1 none ∈ tt := (tt1 128 rfl rfl)
theorem i_Fo_init : Cond.instanceMethod y_Fo_init ∈ tt := (tt1 127 rfl rfl)
theorem d_Fo_init_0 : decode b_Fo_init 0 = .ok (.aload_n 0, 1) := by decide +kernel
theorem d_Fo_init_1 : decode b_Fo_init 1 = .ok (.invokespecial 3, 3) := by decide +kernel
theorem d_Fo_init_4 : decode b_Fo_init 4 = .ok (.aload_n 0, 1) := by decide +kernel
theorem d_Fo_init_5 : decode b_Fo_init 5 = .ok (.iconst 5, 1) := by decide +kernel
theorem d_Fo_init_6 : decode b_Fo_init 6 = .ok (.newarray .int, 2) := by decide +kernel
theorem d_Fo_init_8 : decode b_Fo_init 8 = .ok (.putfield 9, 3) := by decide +kernel
theorem d_Fo_init_11 : decode b_Fo_init 11 = .ok (.aload_n 0, 1) := by decide +kernel
theorem d_Fo_init_12 : decode b_Fo_init 12 = .ok (.iconst 0, 1) := by decide +kernel
theorem d_Fo_init_13 : decode b_Fo_init 13 = .ok (.putfield 15, 3) := by decide +kernel
theorem d_Fo_init_16 : decode b_Fo_init 16 = .ok (.return_, 1) := by decide +kernel
abbrev b_Fo_count : ByteArray := prog_3_method_2_code
def y_Fo_count : MethodName := ⟨RFo, "count", "()I"⟩
theorem k_Fo_count : Cond.code y_Fo_count b_Fo_count 1 (some .int) ∈ tt := (tt3 106 rfl rfl)
theorem i_Fo_count : Cond.instanceMethod y_Fo_count ∈ tt := (tt3 104 rfl rfl)
theorem l_Fo_count : Cond.selects RFo y_Fo_count y_Fo_count ∈ tt := (tt3 105 rfl rfl)
theorem d_Fo_count_0 : decode b_Fo_count 0 = .ok (.aload_n 0, 1) := by decide +kernel
theorem d_Fo_count_1 : decode b_Fo_count 1 = .ok (.getfield 15, 3) := by decide +kernel
theorem d_Fo_count_4 : decode b_Fo_count 4 = .ok (.ireturn, 1) := by decide +kernel
abbrev b_Fo_has : ByteArray := prog_3_method_3_code
def y_Fo_has : MethodName := ⟨RFo, "has", "(II)Z"⟩
theorem k_Fo_has : Cond.code y_Fo_has b_Fo_has 3 (some .boolean) ∈ tt := (tt3 111 rfl rfl)
theorem i_Fo_has : Cond.instanceMethod y_Fo_has ∈ tt := (tt3 109 rfl rfl)
theorem l_Fo_has : Cond.selects RFo y_Fo_has y_Fo_has ∈ tt := (tt3 110 rfl rfl)
theorem d_Fo_has_0 : decode b_Fo_has 0 = .ok (.aload_n 0, 1) := by decide +kernel
theorem d_Fo_has_1 : decode b_Fo_has 1 = .ok (.getfield 9, 3) := by decide +kernel
theorem d_Fo_has_4 : decode b_Fo_has 4 = .ok (.iload_n 1, 1) := by decide +kernel
theorem d_Fo_has_5 : decode b_Fo_has 5 = .ok (.iaload, 1) := by decide +kernel
theorem d_Fo_has_6 : decode b_Fo_has 6 = .ok (.iload_n 2, 1) := by decide +kernel
theorem d_Fo_has_7 : decode b_Fo_has 7 = .ok (.invokestatic 19, 3) := by decide +kernel
theorem d_Fo_has_10 : decode b_Fo_has 10 = .ok (.ireturn, 1) := by decide +kernel
abbrev b_Fo_add : ByteArray := prog_3_method_4_code
def y_Fo_add : MethodName := ⟨RFo, "add", "(II)I"⟩
theorem k_Fo_add : Cond.code y_Fo_add b_Fo_add 3 (some .int) ∈ tt := (tt3 119 rfl rfl)
theorem i_Fo_add : Cond.instanceMethod y_Fo_add ∈ tt := (tt3 117 rfl rfl)
theorem l_Fo_add : Cond.selects RFo y_Fo_add y_Fo_add ∈ tt := (tt3 118 rfl rfl)
theorem d_Fo_add_0 : decode b_Fo_add 0 = .ok (.aload_n 0, 1) := by decide +kernel
theorem d_Fo_add_1 : decode b_Fo_add 1 = .ok (.getfield 9, 3) := by decide +kernel
theorem d_Fo_add_4 : decode b_Fo_add 4 = .ok (.iload_n 1, 1) := by decide +kernel
theorem d_Fo_add_5 : decode b_Fo_add 5 = .ok (.dup2, 1) := by decide +kernel
theorem d_Fo_add_6 : decode b_Fo_add 6 = .ok (.iaload, 1) := by decide +kernel
theorem d_Fo_add_7 : decode b_Fo_add 7 = .ok (.iconst 1, 1) := by decide +kernel
theorem d_Fo_add_8 : decode b_Fo_add 8 = .ok (.iload_n 2, 1) := by decide +kernel
theorem d_Fo_add_9 : decode b_Fo_add 9 = .ok (.ishl, 1) := by decide +kernel
theorem d_Fo_add_10 : decode b_Fo_add 10 = .ok (.ior, 1) := by decide +kernel
theorem d_Fo_add_11 : decode b_Fo_add 11 = .ok (.iastore, 1) := by decide +kernel
theorem d_Fo_add_12 : decode b_Fo_add 12 = .ok (.aload_n 0, 1) := by decide +kernel
theorem d_Fo_add_13 : decode b_Fo_add 13 = .ok (.dup, 1) := by decide +kernel
theorem d_Fo_add_14 : decode b_Fo_add 14 = .ok (.getfield 15, 3) := by decide +kernel
theorem d_Fo_add_17 : decode b_Fo_add 17 = .ok (.iconst 1, 1) := by decide +kernel
theorem d_Fo_add_18 : decode b_Fo_add 18 = .ok (.iadd, 1) := by decide +kernel
theorem d_Fo_add_19 : decode b_Fo_add 19 = .ok (.putfield 15, 3) := by decide +kernel
theorem d_Fo_add_22 : decode b_Fo_add 22 = .ok (.aload_n 0, 1) := by decide +kernel
theorem d_Fo_add_23 : decode b_Fo_add 23 = .ok (.getfield 15, 3) := by decide +kernel
theorem d_Fo_add_26 : decode b_Fo_add 26 = .ok (.ireturn, 1) := by decide +kernel
abbrev b_Fo_longestAt : ByteArray := prog_3_method_5_code
def y_Fo_longestAt : MethodName := ⟨RFo, "longestAt", "(II)I"⟩
theorem k_Fo_longestAt : Cond.code y_Fo_longestAt b_Fo_longestAt 7 (some .int) ∈ tt := (tt3 131 rfl rfl)
theorem i_Fo_longestAt : Cond.instanceMethod y_Fo_longestAt ∈ tt := (tt3 129 rfl rfl)
theorem l_Fo_longestAt : Cond.selects RFo y_Fo_longestAt y_Fo_longestAt ∈ tt := (tt3 130 rfl rfl)
theorem d_Fo_longestAt_0 : decode b_Fo_longestAt 0 = .ok (.iload_n 1, 1) := by decide +kernel
theorem d_Fo_longestAt_1 : decode b_Fo_longestAt 1 = .ok (.iload_n 2, 1) := by decide +kernel
theorem d_Fo_longestAt_2 : decode b_Fo_longestAt 2 = .ok (.if_icmp .lt 5, 3) := by decide +kernel
theorem d_Fo_longestAt_5 : decode b_Fo_longestAt 5 = .ok (.iconst (-1), 1) := by decide +kernel
theorem d_Fo_longestAt_6 : decode b_Fo_longestAt 6 = .ok (.ireturn, 1) := by decide +kernel
theorem d_Fo_longestAt_7 : decode b_Fo_longestAt 7 = .ok (.iconst 0, 1) := by decide +kernel
theorem d_Fo_longestAt_8 : decode b_Fo_longestAt 8 = .ok (.istore_n 3, 1) := by decide +kernel
theorem d_Fo_longestAt_9 : decode b_Fo_longestAt 9 = .ok (.iconst 1, 1) := by decide +kernel
theorem d_Fo_longestAt_10 : decode b_Fo_longestAt 10 = .ok (.iload_n 2, 1) := by decide +kernel
theorem d_Fo_longestAt_11 : decode b_Fo_longestAt 11 = .ok (.ishl, 1) := by decide +kernel
theorem d_Fo_longestAt_12 : decode b_Fo_longestAt 12 = .ok (.iconst 1, 1) := by decide +kernel
theorem d_Fo_longestAt_13 : decode b_Fo_longestAt 13 = .ok (.isub, 1) := by decide +kernel
theorem d_Fo_longestAt_14 : decode b_Fo_longestAt 14 = .ok (.istore 4, 2) := by decide +kernel
theorem d_Fo_longestAt_16 : decode b_Fo_longestAt 16 = .ok (.iconst (-1), 1) := by decide +kernel
theorem d_Fo_longestAt_17 : decode b_Fo_longestAt 17 = .ok (.istore 5, 2) := by decide +kernel
theorem d_Fo_longestAt_19 : decode b_Fo_longestAt 19 = .ok (.iconst 0, 1) := by decide +kernel
theorem d_Fo_longestAt_20 : decode b_Fo_longestAt 20 = .ok (.istore 6, 2) := by decide +kernel
theorem d_Fo_longestAt_22 : decode b_Fo_longestAt 22 = .ok (.iload 6, 2) := by decide +kernel
theorem d_Fo_longestAt_24 : decode b_Fo_longestAt 24 = .ok (.iload_n 1, 1) := by decide +kernel
theorem d_Fo_longestAt_25 : decode b_Fo_longestAt 25 = .ok (.if_icmp .gt 48, 3) := by decide +kernel
theorem d_Fo_longestAt_28 : decode b_Fo_longestAt 28 = .ok (.aload_n 0, 1) := by decide +kernel
theorem d_Fo_longestAt_29 : decode b_Fo_longestAt 29 = .ok (.getfield 9, 3) := by decide +kernel
theorem d_Fo_longestAt_32 : decode b_Fo_longestAt 32 = .ok (.iload 4, 2) := by decide +kernel
theorem d_Fo_longestAt_34 : decode b_Fo_longestAt 34 = .ok (.iload_n 3, 1) := by decide +kernel
theorem d_Fo_longestAt_35 : decode b_Fo_longestAt 35 = .ok (.invokestatic 23, 3) := by decide +kernel
theorem d_Fo_longestAt_38 : decode b_Fo_longestAt 38 = .ok (.istore 5, 2) := by decide +kernel
theorem d_Fo_longestAt_40 : decode b_Fo_longestAt 40 = .ok (.iload 5, 2) := by decide +kernel
theorem d_Fo_longestAt_42 : decode b_Fo_longestAt 42 = .ok (.ifCond .ge 5, 3) := by decide +kernel
theorem d_Fo_longestAt_45 : decode b_Fo_longestAt 45 = .ok (.iconst (-1), 1) := by decide +kernel
theorem d_Fo_longestAt_46 : decode b_Fo_longestAt 46 = .ok (.ireturn, 1) := by decide +kernel
theorem d_Fo_longestAt_47 : decode b_Fo_longestAt 47 = .ok (.iload_n 3, 1) := by decide +kernel
theorem d_Fo_longestAt_48 : decode b_Fo_longestAt 48 = .ok (.iconst 1, 1) := by decide +kernel
theorem d_Fo_longestAt_49 : decode b_Fo_longestAt 49 = .ok (.iload 5, 2) := by decide +kernel
theorem d_Fo_longestAt_51 : decode b_Fo_longestAt 51 = .ok (.ishl, 1) := by decide +kernel
theorem d_Fo_longestAt_52 : decode b_Fo_longestAt 52 = .ok (.ior, 1) := by decide +kernel
theorem d_Fo_longestAt_53 : decode b_Fo_longestAt 53 = .ok (.istore_n 3, 1) := by decide +kernel
theorem d_Fo_longestAt_54 : decode b_Fo_longestAt 54 = .ok (.aload_n 0, 1) := by decide +kernel
theorem d_Fo_longestAt_55 : decode b_Fo_longestAt 55 = .ok (.getfield 9, 3) := by decide +kernel
theorem d_Fo_longestAt_58 : decode b_Fo_longestAt 58 = .ok (.iload 5, 2) := by decide +kernel
theorem d_Fo_longestAt_60 : decode b_Fo_longestAt 60 = .ok (.iaload, 1) := by decide +kernel
theorem d_Fo_longestAt_61 : decode b_Fo_longestAt 61 = .ok (.iload_n 3, 1) := by decide +kernel
theorem d_Fo_longestAt_62 : decode b_Fo_longestAt 62 = .ok (.iconst (-1), 1) := by decide +kernel
theorem d_Fo_longestAt_63 : decode b_Fo_longestAt 63 = .ok (.ixor, 1) := by decide +kernel
theorem d_Fo_longestAt_64 : decode b_Fo_longestAt 64 = .ok (.iand, 1) := by decide +kernel
theorem d_Fo_longestAt_65 : decode b_Fo_longestAt 65 = .ok (.istore 4, 2) := by decide +kernel
theorem d_Fo_longestAt_67 : decode b_Fo_longestAt 67 = .ok (.iinc 6 1, 3) := by decide +kernel
theorem d_Fo_longestAt_70 : decode b_Fo_longestAt 70 = .ok (.goto (-48), 3) := by decide +kernel
theorem d_Fo_longestAt_73 : decode b_Fo_longestAt 73 = .ok (.iload 5, 2) := by decide +kernel
theorem d_Fo_longestAt_75 : decode b_Fo_longestAt 75 = .ok (.ireturn, 1) := by decide +kernel
abbrev b_Fo_bestChoice : ByteArray := prog_3_method_6_code
def y_Fo_bestChoice : MethodName := ⟨RFo, "bestChoice", "([III)I"⟩
theorem k_Fo_bestChoice : Cond.code y_Fo_bestChoice b_Fo_bestChoice 7 (some .int) ∈ tt := (tt3 134 rfl rfl)
theorem s_Fo_bestChoice : Cond.static y_Fo_bestChoice ∈ tt := (tt3 133 rfl rfl)
theorem d_Fo_bestChoice_0 : decode b_Fo_bestChoice 0 = .ok (.iconst (-1), 1) := by decide +kernel
theorem d_Fo_bestChoice_1 : decode b_Fo_bestChoice 1 = .ok (.istore_n 3, 1) := by decide +kernel
theorem d_Fo_bestChoice_2 : decode b_Fo_bestChoice 2 = .ok (.iconst 0, 1) := by decide +kernel
theorem d_Fo_bestChoice_3 : decode b_Fo_bestChoice 3 = .ok (.istore 4, 2) := by decide +kernel
theorem d_Fo_bestChoice_5 : decode b_Fo_bestChoice 5 = .ok (.iconst 0, 1) := by decide +kernel
theorem d_Fo_bestChoice_6 : decode b_Fo_bestChoice 6 = .ok (.istore 5, 2) := by decide +kernel
theorem d_Fo_bestChoice_8 : decode b_Fo_bestChoice 8 = .ok (.iload 5, 2) := by decide +kernel
theorem d_Fo_bestChoice_10 : decode b_Fo_bestChoice 10 = .ok (.iconst 5, 1) := by decide +kernel
theorem d_Fo_bestChoice_11 : decode b_Fo_bestChoice 11 = .ok (.if_icmp .ge 46, 3) := by decide +kernel
theorem d_Fo_bestChoice_14 : decode b_Fo_bestChoice 14 = .ok (.iload_n 1, 1) := by decide +kernel
theorem d_Fo_bestChoice_15 : decode b_Fo_bestChoice 15 = .ok (.iload 5, 2) := by decide +kernel
theorem d_Fo_bestChoice_17 : decode b_Fo_bestChoice 17 = .ok (.invokestatic 19, 3) := by decide +kernel
theorem d_Fo_bestChoice_20 : decode b_Fo_bestChoice 20 = .ok (.ifCond .eq 14, 3) := by decide +kernel
theorem d_Fo_bestChoice_23 : decode b_Fo_bestChoice 23 = .ok (.aload_n 0, 1) := by decide +kernel
theorem d_Fo_bestChoice_24 : decode b_Fo_bestChoice 24 = .ok (.iload 5, 2) := by decide +kernel
theorem d_Fo_bestChoice_26 : decode b_Fo_bestChoice 26 = .ok (.iload_n 2, 1) := by decide +kernel
theorem d_Fo_bestChoice_27 : decode b_Fo_bestChoice 27 = .ok (.iconst 0, 1) := by decide +kernel
theorem d_Fo_bestChoice_28 : decode b_Fo_bestChoice 28 = .ok (.invokestatic 27, 3) := by decide +kernel
theorem d_Fo_bestChoice_31 : decode b_Fo_bestChoice 31 = .ok (.goto 4, 3) := by decide +kernel
theorem d_Fo_bestChoice_34 : decode b_Fo_bestChoice 34 = .ok (.iconst 0, 1) := by decide +kernel
theorem d_Fo_bestChoice_35 : decode b_Fo_bestChoice 35 = .ok (.istore 6, 2) := by decide +kernel
theorem d_Fo_bestChoice_37 : decode b_Fo_bestChoice 37 = .ok (.iload 6, 2) := by decide +kernel
theorem d_Fo_bestChoice_39 : decode b_Fo_bestChoice 39 = .ok (.iload 4, 2) := by decide +kernel
theorem d_Fo_bestChoice_41 : decode b_Fo_bestChoice 41 = .ok (.if_icmp .le 10, 3) := by decide +kernel
theorem d_Fo_bestChoice_44 : decode b_Fo_bestChoice 44 = .ok (.iload 6, 2) := by decide +kernel
theorem d_Fo_bestChoice_46 : decode b_Fo_bestChoice 46 = .ok (.istore 4, 2) := by decide +kernel
theorem d_Fo_bestChoice_48 : decode b_Fo_bestChoice 48 = .ok (.iload 5, 2) := by decide +kernel
theorem d_Fo_bestChoice_50 : decode b_Fo_bestChoice 50 = .ok (.istore_n 3, 1) := by decide +kernel
theorem d_Fo_bestChoice_51 : decode b_Fo_bestChoice 51 = .ok (.iinc 5 1, 3) := by decide +kernel
theorem d_Fo_bestChoice_54 : decode b_Fo_bestChoice 54 = .ok (.goto (-46), 3) := by decide +kernel
theorem d_Fo_bestChoice_57 : decode b_Fo_bestChoice 57 = .ok (.iload_n 3, 1) := by decide +kernel
theorem d_Fo_bestChoice_58 : decode b_Fo_bestChoice 58 = .ok (.ireturn, 1) := by decide +kernel
abbrev b_Fo_longestFrom : ByteArray := prog_3_method_7_code
def y_Fo_longestFrom : MethodName := ⟨RFo, "longestFrom", "([IIII)I"⟩
theorem k_Fo_longestFrom : Cond.code y_Fo_longestFrom b_Fo_longestFrom 7 (some .int) ∈ tt := (tt3 137 rfl rfl)
theorem s_Fo_longestFrom : Cond.static y_Fo_longestFrom ∈ tt := (tt3 136 rfl rfl)
theorem d_Fo_longestFrom_0 : decode b_Fo_longestFrom 0 = .ok (.iload_n 3, 1) := by decide +kernel
theorem d_Fo_longestFrom_1 : decode b_Fo_longestFrom 1 = .ok (.iconst 5, 1) := by decide +kernel
theorem d_Fo_longestFrom_2 : decode b_Fo_longestFrom 2 = .ok (.if_icmp .lt 5, 3) := by decide +kernel
theorem d_Fo_longestFrom_5 : decode b_Fo_longestFrom 5 = .ok (.iconst 0, 1) := by decide +kernel
theorem d_Fo_longestFrom_6 : decode b_Fo_longestFrom 6 = .ok (.ireturn, 1) := by decide +kernel
theorem d_Fo_longestFrom_7 : decode b_Fo_longestFrom 7 = .ok (.iload_n 2, 1) := by decide +kernel
theorem d_Fo_longestFrom_8 : decode b_Fo_longestFrom 8 = .ok (.iconst 1, 1) := by decide +kernel
theorem d_Fo_longestFrom_9 : decode b_Fo_longestFrom 9 = .ok (.iload_n 1, 1) := by decide +kernel
theorem d_Fo_longestFrom_10 : decode b_Fo_longestFrom 10 = .ok (.ishl, 1) := by decide +kernel
theorem d_Fo_longestFrom_11 : decode b_Fo_longestFrom 11 = .ok (.ior, 1) := by decide +kernel
theorem d_Fo_longestFrom_12 : decode b_Fo_longestFrom 12 = .ok (.istore 4, 2) := by decide +kernel
theorem d_Fo_longestFrom_14 : decode b_Fo_longestFrom 14 = .ok (.iconst 0, 1) := by decide +kernel
theorem d_Fo_longestFrom_15 : decode b_Fo_longestFrom 15 = .ok (.istore 5, 2) := by decide +kernel
theorem d_Fo_longestFrom_17 : decode b_Fo_longestFrom 17 = .ok (.iconst 0, 1) := by decide +kernel
theorem d_Fo_longestFrom_18 : decode b_Fo_longestFrom 18 = .ok (.istore 6, 2) := by decide +kernel
theorem d_Fo_longestFrom_20 : decode b_Fo_longestFrom 20 = .ok (.iload 6, 2) := by decide +kernel
theorem d_Fo_longestFrom_22 : decode b_Fo_longestFrom 22 = .ok (.iconst 5, 1) := by decide +kernel
theorem d_Fo_longestFrom_23 : decode b_Fo_longestFrom 23 = .ok (.if_icmp .ge 43, 3) := by decide +kernel
theorem d_Fo_longestFrom_26 : decode b_Fo_longestFrom 26 = .ok (.aload_n 0, 1) := by decide +kernel
theorem d_Fo_longestFrom_27 : decode b_Fo_longestFrom 27 = .ok (.iload_n 1, 1) := by decide +kernel
theorem d_Fo_longestFrom_28 : decode b_Fo_longestFrom 28 = .ok (.iaload, 1) := by decide +kernel
theorem d_Fo_longestFrom_29 : decode b_Fo_longestFrom 29 = .ok (.iload 4, 2) := by decide +kernel
theorem d_Fo_longestFrom_31 : decode b_Fo_longestFrom 31 = .ok (.iconst (-1), 1) := by decide +kernel
theorem d_Fo_longestFrom_32 : decode b_Fo_longestFrom 32 = .ok (.ixor, 1) := by decide +kernel
theorem d_Fo_longestFrom_33 : decode b_Fo_longestFrom 33 = .ok (.iand, 1) := by decide +kernel
theorem d_Fo_longestFrom_34 : decode b_Fo_longestFrom 34 = .ok (.iload 6, 2) := by decide +kernel
theorem d_Fo_longestFrom_36 : decode b_Fo_longestFrom 36 = .ok (.invokestatic 19, 3) := by decide +kernel
theorem d_Fo_longestFrom_39 : decode b_Fo_longestFrom 39 = .ok (.ifCond .eq 21, 3) := by decide +kernel
theorem d_Fo_longestFrom_42 : decode b_Fo_longestFrom 42 = .ok (.iload 5, 2) := by decide +kernel
theorem d_Fo_longestFrom_44 : decode b_Fo_longestFrom 44 = .ok (.aload_n 0, 1) := by decide +kernel
theorem d_Fo_longestFrom_45 : decode b_Fo_longestFrom 45 = .ok (.iload 6, 2) := by decide +kernel
theorem d_Fo_longestFrom_47 : decode b_Fo_longestFrom 47 = .ok (.iload 4, 2) := by decide +kernel
theorem d_Fo_longestFrom_49 : decode b_Fo_longestFrom 49 = .ok (.iload_n 3, 1) := by decide +kernel
theorem d_Fo_longestFrom_50 : decode b_Fo_longestFrom 50 = .ok (.iconst 1, 1) := by decide +kernel
theorem d_Fo_longestFrom_51 : decode b_Fo_longestFrom 51 = .ok (.iadd, 1) := by decide +kernel
theorem d_Fo_longestFrom_52 : decode b_Fo_longestFrom 52 = .ok (.invokestatic 27, 3) := by decide +kernel
theorem d_Fo_longestFrom_55 : decode b_Fo_longestFrom 55 = .ok (.invokestatic 31, 3) := by decide +kernel
theorem d_Fo_longestFrom_58 : decode b_Fo_longestFrom 58 = .ok (.istore 5, 2) := by decide +kernel
theorem d_Fo_longestFrom_60 : decode b_Fo_longestFrom 60 = .ok (.iinc 6 1, 3) := by decide +kernel
theorem d_Fo_longestFrom_63 : decode b_Fo_longestFrom 63 = .ok (.goto (-43), 3) := by decide +kernel
theorem d_Fo_longestFrom_66 : decode b_Fo_longestFrom 66 = .ok (.iload 5, 2) := by decide +kernel
theorem d_Fo_longestFrom_68 : decode b_Fo_longestFrom 68 = .ok (.iconst 1, 1) := by decide +kernel
theorem d_Fo_longestFrom_69 : decode b_Fo_longestFrom 69 = .ok (.iadd, 1) := by decide +kernel
theorem d_Fo_longestFrom_70 : decode b_Fo_longestFrom 70 = .ok (.ireturn, 1) := by decide +kernel
abbrev b_Fo_hasBit : ByteArray := prog_3_method_8_code
def y_Fo_hasBit : MethodName := ⟨RFo, "hasBit", "(II)Z"⟩
theorem k_Fo_hasBit : Cond.code y_Fo_hasBit b_Fo_hasBit 2 (some .boolean) ∈ tt := (tt3 114 rfl rfl)
theorem s_Fo_hasBit : Cond.static y_Fo_hasBit ∈ tt := (tt3 113 rfl rfl)
theorem d_Fo_hasBit_0 : decode b_Fo_hasBit 0 = .ok (.iload_n 0, 1) := by decide +kernel
theorem d_Fo_hasBit_1 : decode b_Fo_hasBit 1 = .ok (.iload_n 1, 1) := by decide +kernel
theorem d_Fo_hasBit_2 : decode b_Fo_hasBit 2 = .ok (.ishr, 1) := by decide +kernel
theorem d_Fo_hasBit_3 : decode b_Fo_hasBit 3 = .ok (.iconst 1, 1) := by decide +kernel
theorem d_Fo_hasBit_4 : decode b_Fo_hasBit 4 = .ok (.iand, 1) := by decide +kernel
theorem d_Fo_hasBit_5 : decode b_Fo_hasBit 5 = .ok (.iconst 1, 1) := by decide +kernel
theorem d_Fo_hasBit_6 : decode b_Fo_hasBit 6 = .ok (.if_icmp .ne 7, 3) := by decide +kernel
theorem d_Fo_hasBit_9 : decode b_Fo_hasBit 9 = .ok (.iconst 1, 1) := by decide +kernel
theorem d_Fo_hasBit_10 : decode b_Fo_hasBit 10 = .ok (.goto 4, 3) := by decide +kernel
theorem d_Fo_hasBit_13 : decode b_Fo_hasBit 13 = .ok (.iconst 0, 1) := by decide +kernel
theorem d_Fo_hasBit_14 : decode b_Fo_hasBit 14 = .ok (.ireturn, 1) := by decide +kernel
abbrev b_Se_init : ByteArray := prog_6_method_1_code
def y_Se_init : MethodName := ⟨RSe, "<init>", "(LOrderBounds$Columns;LOrderBounds$Lines;)V"⟩
theorem k_Se_init : Cond.code y_Se_init b_Se_init 3 none ∈ tt := (tt1 91 rfl rfl)
theorem i_Se_init : Cond.instanceMethod y_Se_init ∈ tt := (tt1 90 rfl rfl)
theorem d_Se_init_0 : decode b_Se_init 0 = .ok (.aload_n 0, 1) := by decide +kernel
theorem d_Se_init_1 : decode b_Se_init 1 = .ok (.invokespecial 3, 3) := by decide +kernel
theorem d_Se_init_4 : decode b_Se_init 4 = .ok (.aload_n 0, 1) := by decide +kernel
theorem d_Se_init_5 : decode b_Se_init 5 = .ok (.iconst 5, 1) := by decide +kernel
theorem d_Se_init_6 : decode b_Se_init 6 = .ok (.newarray .int, 2) := by decide +kernel
theorem d_Se_init_8 : decode b_Se_init 8 = .ok (.putfield 9, 3) := by decide +kernel
theorem d_Se_init_11 : decode b_Se_init 11 = .ok (.aload_n 0, 1) := by decide +kernel
theorem d_Se_init_12 : decode b_Se_init 12 = .ok (.iconst 5, 1) := by decide +kernel
theorem d_Se_init_13 : decode b_Se_init 13 = .ok (.newarray .int, 2) := by decide +kernel
theorem d_Se_init_15 : decode b_Se_init 15 = .ok (.putfield 15, 3) := by decide +kernel
theorem d_Se_init_18 : decode b_Se_init 18 = .ok (.aload_n 0, 1) := by decide +kernel
theorem d_Se_init_19 : decode b_Se_init 19 = .ok (.bipush 6, 2) := by decide +kernel
theorem d_Se_init_21 : decode b_Se_init 21 = .ok (.newarray .int, 2) := by decide +kernel
theorem d_Se_init_23 : decode b_Se_init 23 = .ok (.putfield 18, 3) := by decide +kernel
theorem d_Se_init_26 : decode b_Se_init 26 = .ok (.aload_n 0, 1) := by decide +kernel
theorem d_Se_init_27 : decode b_Se_init 27 = .ok (.bipush 6, 2) := by decide +kernel
theorem d_Se_init_29 : decode b_Se_init 29 = .ok (.newarray .int, 2) := by decide +kernel
theorem d_Se_init_31 : decode b_Se_init 31 = .ok (.putfield 21, 3) := by decide +kernel
theorem d_Se_init_34 : decode b_Se_init 34 = .ok (.aload_n 0, 1) := by decide +kernel
theorem d_Se_init_35 : decode b_Se_init 35 = .ok (.iconst 0, 1) := by decide +kernel
theorem d_Se_init_36 : decode b_Se_init 36 = .ok (.putfield 24, 3) := by decide +kernel
theorem d_Se_init_39 : decode b_Se_init 39 = .ok (.aload_n 0, 1) := by decide +kernel
theorem d_Se_init_40 : decode b_Se_init 40 = .ok (.iconst 0, 1) := by decide +kernel
theorem d_Se_init_41 : decode b_Se_init 41 = .ok (.putfield 28, 3) := by decide +kernel
theorem d_Se_init_44 : decode b_Se_init 44 = .ok (.aload_n 0, 1) := by decide +kernel
theorem d_Se_init_45 : decode b_Se_init 45 = .ok (.iconst 0, 1) := by decide +kernel
theorem d_Se_init_46 : decode b_Se_init 46 = .ok (.putfield 31, 3) := by decide +kernel
theorem d_Se_init_49 : decode b_Se_init 49 = .ok (.aload_n 0, 1) := by decide +kernel
theorem d_Se_init_50 : decode b_Se_init 50 = .ok (.iconst 0, 1) := by decide +kernel
theorem d_Se_init_51 : decode b_Se_init 51 = .ok (.putfield 35, 3) := by decide +kernel
theorem d_Se_init_54 : decode b_Se_init 54 = .ok (.aload_n 0, 1) := by decide +kernel
theorem d_Se_init_55 : decode b_Se_init 55 = .ok (.aload_n 1, 1) := by decide +kernel
theorem d_Se_init_56 : decode b_Se_init 56 = .ok (.putfield 38, 3) := by decide +kernel
theorem d_Se_init_59 : decode b_Se_init 59 = .ok (.aload_n 0, 1) := by decide +kernel
theorem d_Se_init_60 : decode b_Se_init 60 = .ok (.aload_n 2, 1) := by decide +kernel
theorem d_Se_init_61 : decode b_Se_init 61 = .ok (.putfield 42, 3) := by decide +kernel
theorem d_Se_init_64 : decode b_Se_init 64 = .ok (.return_, 1) := by decide +kernel
abbrev b_Se_stepsGiven : ByteArray := prog_6_method_2_code
def y_Se_stepsGiven : MethodName := ⟨RSe, "stepsGiven", "()I"⟩
theorem k_Se_stepsGiven : Cond.code y_Se_stepsGiven b_Se_stepsGiven 1 (some .int) ∈ tt := (tt3 44 rfl rfl)
theorem i_Se_stepsGiven : Cond.instanceMethod y_Se_stepsGiven ∈ tt := (tt3 42 rfl rfl)
theorem l_Se_stepsGiven : Cond.selects RSe y_Se_stepsGiven y_Se_stepsGiven ∈ tt := (tt3 43 rfl rfl)
theorem d_Se_stepsGiven_0 : decode b_Se_stepsGiven 0 = .ok (.aload_n 0, 1) := by decide +kernel
theorem d_Se_stepsGiven_1 : decode b_Se_stepsGiven 1 = .ok (.getfield 28, 3) := by decide +kernel
theorem d_Se_stepsGiven_4 : decode b_Se_stepsGiven 4 = .ok (.ireturn, 1) := by decide +kernel
abbrev b_Se_hasFound : ByteArray := prog_6_method_3_code
def y_Se_hasFound : MethodName := ⟨RSe, "hasFound", "()Z"⟩
theorem k_Se_hasFound : Cond.code y_Se_hasFound b_Se_hasFound 1 (some .boolean) ∈ tt := (tt3 48 rfl rfl)
theorem i_Se_hasFound : Cond.instanceMethod y_Se_hasFound ∈ tt := (tt3 46 rfl rfl)
theorem l_Se_hasFound : Cond.selects RSe y_Se_hasFound y_Se_hasFound ∈ tt := (tt3 47 rfl rfl)
theorem d_Se_hasFound_0 : decode b_Se_hasFound 0 = .ok (.aload_n 0, 1) := by decide +kernel
theorem d_Se_hasFound_1 : decode b_Se_hasFound 1 = .ok (.getfield 31, 3) := by decide +kernel
theorem d_Se_hasFound_4 : decode b_Se_hasFound 4 = .ok (.ireturn, 1) := by decide +kernel
abbrev b_Se_bestWorth : ByteArray := prog_6_method_4_code
def y_Se_bestWorth : MethodName := ⟨RSe, "bestWorth", "()I"⟩
theorem k_Se_bestWorth : Cond.code y_Se_bestWorth b_Se_bestWorth 1 (some .int) ∈ tt := (tt3 68 rfl rfl)
theorem i_Se_bestWorth : Cond.instanceMethod y_Se_bestWorth ∈ tt := (tt3 66 rfl rfl)
theorem l_Se_bestWorth : Cond.selects RSe y_Se_bestWorth y_Se_bestWorth ∈ tt := (tt3 67 rfl rfl)
theorem d_Se_bestWorth_0 : decode b_Se_bestWorth 0 = .ok (.aload_n 0, 1) := by decide +kernel
theorem d_Se_bestWorth_1 : decode b_Se_bestWorth 1 = .ok (.getfield 35, 3) := by decide +kernel
theorem d_Se_bestWorth_4 : decode b_Se_bestWorth 4 = .ok (.ireturn, 1) := by decide +kernel
abbrev b_Se_bestNumber : ByteArray := prog_6_method_5_code
def y_Se_bestNumber : MethodName := ⟨RSe, "bestNumber", "(I)I"⟩
theorem k_Se_bestNumber : Cond.code y_Se_bestNumber b_Se_bestNumber 2 (some .int) ∈ tt := (tt3 79 rfl rfl)
theorem i_Se_bestNumber : Cond.instanceMethod y_Se_bestNumber ∈ tt := (tt3 77 rfl rfl)
theorem l_Se_bestNumber : Cond.selects RSe y_Se_bestNumber y_Se_bestNumber ∈ tt := (tt3 78 rfl rfl)
theorem d_Se_bestNumber_0 : decode b_Se_bestNumber 0 = .ok (.aload_n 0, 1) := by decide +kernel
theorem d_Se_bestNumber_1 : decode b_Se_bestNumber 1 = .ok (.getfield 15, 3) := by decide +kernel
theorem d_Se_bestNumber_4 : decode b_Se_bestNumber 4 = .ok (.iload_n 1, 1) := by decide +kernel
theorem d_Se_bestNumber_5 : decode b_Se_bestNumber 5 = .ok (.iaload, 1) := by decide +kernel
theorem d_Se_bestNumber_6 : decode b_Se_bestNumber 6 = .ok (.ireturn, 1) := by decide +kernel
abbrev b_Se_begin : ByteArray := prog_6_method_6_code
def y_Se_begin : MethodName := ⟨RSe, "begin", "()V"⟩
theorem k_Se_begin : Cond.code y_Se_begin b_Se_begin 3 none ∈ tt := (tt2 99 rfl rfl)
theorem i_Se_begin : Cond.instanceMethod y_Se_begin ∈ tt := (tt2 97 rfl rfl)
theorem l_Se_begin : Cond.selects RSe y_Se_begin y_Se_begin ∈ tt := (tt2 98 rfl rfl)
theorem d_Se_begin_0 : decode b_Se_begin 0 = .ok (.aload_n 0, 1) := by decide +kernel
theorem d_Se_begin_1 : decode b_Se_begin 1 = .ok (.getfield 38, 3) := by decide +kernel
theorem d_Se_begin_4 : decode b_Se_begin 4 = .ok (.invokevirtual 46, 3) := by decide +kernel
theorem d_Se_begin_7 : decode b_Se_begin 7 = .ok (.istore_n 1, 1) := by decide +kernel
theorem d_Se_begin_8 : decode b_Se_begin 8 = .ok (.aload_n 0, 1) := by decide +kernel
theorem d_Se_begin_9 : decode b_Se_begin 9 = .ok (.getfield 21, 3) := by decide +kernel
theorem d_Se_begin_12 : decode b_Se_begin 12 = .ok (.iload_n 1, 1) := by decide +kernel
theorem d_Se_begin_13 : decode b_Se_begin 13 = .ok (.iconst 0, 1) := by decide +kernel
theorem d_Se_begin_14 : decode b_Se_begin 14 = .ok (.iastore, 1) := by decide +kernel
theorem d_Se_begin_15 : decode b_Se_begin 15 = .ok (.iload_n 1, 1) := by decide +kernel
theorem d_Se_begin_16 : decode b_Se_begin 16 = .ok (.iconst 1, 1) := by decide +kernel
theorem d_Se_begin_17 : decode b_Se_begin 17 = .ok (.isub, 1) := by decide +kernel
theorem d_Se_begin_18 : decode b_Se_begin 18 = .ok (.istore_n 2, 1) := by decide +kernel
theorem d_Se_begin_19 : decode b_Se_begin 19 = .ok (.iload_n 2, 1) := by decide +kernel
theorem d_Se_begin_20 : decode b_Se_begin 20 = .ok (.ifCond .lt 45, 3) := by decide +kernel
theorem d_Se_begin_23 : decode b_Se_begin 23 = .ok (.aload_n 0, 1) := by decide +kernel
theorem d_Se_begin_24 : decode b_Se_begin 24 = .ok (.getfield 21, 3) := by decide +kernel
theorem d_Se_begin_27 : decode b_Se_begin 27 = .ok (.iload_n 2, 1) := by decide +kernel
theorem d_Se_begin_28 : decode b_Se_begin 28 = .ok (.aload_n 0, 1) := by decide +kernel
theorem d_Se_begin_29 : decode b_Se_begin 29 = .ok (.getfield 21, 3) := by decide +kernel
theorem d_Se_begin_32 : decode b_Se_begin 32 = .ok (.iload_n 2, 1) := by decide +kernel
theorem d_Se_begin_33 : decode b_Se_begin 33 = .ok (.iconst 1, 1) := by decide +kernel
theorem d_Se_begin_34 : decode b_Se_begin 34 = .ok (.iadd, 1) := by decide +kernel
theorem d_Se_begin_35 : decode b_Se_begin 35 = .ok (.iaload, 1) := by decide +kernel
theorem d_Se_begin_36 : decode b_Se_begin 36 = .ok (.aload_n 0, 1) := by decide +kernel
theorem d_Se_begin_37 : decode b_Se_begin 37 = .ok (.getfield 38, 3) := by decide +kernel
theorem d_Se_begin_40 : decode b_Se_begin 40 = .ok (.iload_n 2, 1) := by decide +kernel
theorem d_Se_begin_41 : decode b_Se_begin 41 = .ok (.invokevirtual 52, 3) := by decide +kernel
theorem d_Se_begin_44 : decode b_Se_begin 44 = .ok (.aload_n 0, 1) := by decide +kernel
theorem d_Se_begin_45 : decode b_Se_begin 45 = .ok (.getfield 38, 3) := by decide +kernel
theorem d_Se_begin_48 : decode b_Se_begin 48 = .ok (.iload_n 2, 1) := by decide +kernel
theorem d_Se_begin_49 : decode b_Se_begin 49 = .ok (.invokevirtual 56, 3) := by decide +kernel
theorem d_Se_begin_52 : decode b_Se_begin 52 = .ok (.imul, 1) := by decide +kernel
theorem d_Se_begin_53 : decode b_Se_begin 53 = .ok (.iconst 0, 1) := by decide +kernel
theorem d_Se_begin_54 : decode b_Se_begin 54 = .ok (.invokestatic 59, 3) := by decide +kernel
theorem d_Se_begin_57 : decode b_Se_begin 57 = .ok (.iadd, 1) := by decide +kernel
theorem d_Se_begin_58 : decode b_Se_begin 58 = .ok (.iastore, 1) := by decide +kernel
theorem d_Se_begin_59 : decode b_Se_begin 59 = .ok (.iinc 2 (-1), 3) := by decide +kernel
theorem d_Se_begin_62 : decode b_Se_begin 62 = .ok (.goto (-43), 3) := by decide +kernel
theorem d_Se_begin_65 : decode b_Se_begin 65 = .ok (.aload_n 0, 1) := by decide +kernel
theorem d_Se_begin_66 : decode b_Se_begin 66 = .ok (.getfield 42, 3) := by decide +kernel
theorem d_Se_begin_69 : decode b_Se_begin 69 = .ok (.aload_n 0, 1) := by decide +kernel
theorem d_Se_begin_70 : decode b_Se_begin 70 = .ok (.getfield 38, 3) := by decide +kernel
theorem d_Se_begin_73 : decode b_Se_begin 73 = .ok (.invokevirtual 65, 3) := by decide +kernel
theorem d_Se_begin_76 : decode b_Se_begin 76 = .ok (.aload_n 0, 1) := by decide +kernel
theorem d_Se_begin_77 : decode b_Se_begin 77 = .ok (.getfield 18, 3) := by decide +kernel
theorem d_Se_begin_80 : decode b_Se_begin 80 = .ok (.iconst 0, 1) := by decide +kernel
theorem d_Se_begin_81 : decode b_Se_begin 81 = .ok (.iconst 0, 1) := by decide +kernel
theorem d_Se_begin_82 : decode b_Se_begin 82 = .ok (.iastore, 1) := by decide +kernel
theorem d_Se_begin_83 : decode b_Se_begin 83 = .ok (.aload_n 0, 1) := by decide +kernel
theorem d_Se_begin_84 : decode b_Se_begin 84 = .ok (.iconst 0, 1) := by decide +kernel
theorem d_Se_begin_85 : decode b_Se_begin 85 = .ok (.putfield 28, 3) := by decide +kernel
theorem d_Se_begin_88 : decode b_Se_begin 88 = .ok (.aload_n 0, 1) := by decide +kernel
theorem d_Se_begin_89 : decode b_Se_begin 89 = .ok (.iconst 0, 1) := by decide +kernel
theorem d_Se_begin_90 : decode b_Se_begin 90 = .ok (.putfield 31, 3) := by decide +kernel
theorem d_Se_begin_93 : decode b_Se_begin 93 = .ok (.aload_n 0, 1) := by decide +kernel
theorem d_Se_begin_94 : decode b_Se_begin 94 = .ok (.iconst 0, 1) := by decide +kernel
theorem d_Se_begin_95 : decode b_Se_begin 95 = .ok (.putfield 24, 3) := by decide +kernel
theorem d_Se_begin_98 : decode b_Se_begin 98 = .ok (.aload_n 0, 1) := by decide +kernel
theorem d_Se_begin_99 : decode b_Se_begin 99 = .ok (.getfield 9, 3) := by decide +kernel
theorem d_Se_begin_102 : decode b_Se_begin 102 = .ok (.iconst 0, 1) := by decide +kernel
theorem d_Se_begin_103 : decode b_Se_begin 103 = .ok (.aload_n 0, 1) := by decide +kernel
theorem d_Se_begin_104 : decode b_Se_begin 104 = .ok (.getfield 38, 3) := by decide +kernel
theorem d_Se_begin_107 : decode b_Se_begin 107 = .ok (.iconst 0, 1) := by decide +kernel
theorem d_Se_begin_108 : decode b_Se_begin 108 = .ok (.invokevirtual 56, 3) := by decide +kernel
theorem d_Se_begin_111 : decode b_Se_begin 111 = .ok (.iastore, 1) := by decide +kernel
theorem d_Se_begin_112 : decode b_Se_begin 112 = .ok (.return_, 1) := by decide +kernel
abbrev b_Se_goOn : ByteArray := prog_6_method_7_code
def y_Se_goOn : MethodName := ⟨RSe, "goOn", "(I)I"⟩
theorem k_Se_goOn : Cond.code y_Se_goOn b_Se_goOn 3 (some .int) ∈ tt := (tt2 235 rfl rfl)
theorem i_Se_goOn : Cond.instanceMethod y_Se_goOn ∈ tt := (tt2 233 rfl rfl)
theorem l_Se_goOn : Cond.selects RSe y_Se_goOn y_Se_goOn ∈ tt := (tt2 234 rfl rfl)
theorem d_Se_goOn_0 : decode b_Se_goOn 0 = .ok (.aload_n 0, 1) := by decide +kernel
theorem d_Se_goOn_1 : decode b_Se_goOn 1 = .ok (.getfield 38, 3) := by decide +kernel
theorem d_Se_goOn_4 : decode b_Se_goOn 4 = .ok (.invokevirtual 46, 3) := by decide +kernel
theorem d_Se_goOn_7 : decode b_Se_goOn 7 = .ok (.ifCond .ne 7, 3) := by decide +kernel
theorem d_Se_goOn_10 : decode b_Se_goOn 10 = .ok (.aload_n 0, 1) := by decide +kernel
theorem d_Se_goOn_11 : decode b_Se_goOn 11 = .ok (.invokevirtual 71, 3) := by decide +kernel
theorem d_Se_goOn_14 : decode b_Se_goOn 14 = .ok (.iload_n 1, 1) := by decide +kernel
theorem d_Se_goOn_15 : decode b_Se_goOn 15 = .ok (.istore_n 2, 1) := by decide +kernel
theorem d_Se_goOn_16 : decode b_Se_goOn 16 = .ok (.iload_n 2, 1) := by decide +kernel
theorem d_Se_goOn_17 : decode b_Se_goOn 17 = .ok (.ifCond .le 20, 3) := by decide +kernel
theorem d_Se_goOn_20 : decode b_Se_goOn 20 = .ok (.aload_n 0, 1) := by decide +kernel
theorem d_Se_goOn_21 : decode b_Se_goOn 21 = .ok (.getfield 24, 3) := by decide +kernel
theorem d_Se_goOn_24 : decode b_Se_goOn 24 = .ok (.ifCond .lt 13, 3) := by decide +kernel
theorem d_Se_goOn_27 : decode b_Se_goOn 27 = .ok (.aload_n 0, 1) := by decide +kernel
theorem d_Se_goOn_28 : decode b_Se_goOn 28 = .ok (.invokevirtual 74, 3) := by decide +kernel
theorem d_Se_goOn_31 : decode b_Se_goOn 31 = .ok (.iinc 2 (-1), 3) := by decide +kernel
theorem d_Se_goOn_34 : decode b_Se_goOn 34 = .ok (.goto (-18), 3) := by decide +kernel
theorem d_Se_goOn_37 : decode b_Se_goOn 37 = .ok (.aload_n 0, 1) := by decide +kernel
theorem d_Se_goOn_38 : decode b_Se_goOn 38 = .ok (.getfield 24, 3) := by decide +kernel
theorem d_Se_goOn_41 : decode b_Se_goOn 41 = .ok (.ifCond .lt 5, 3) := by decide +kernel
theorem d_Se_goOn_44 : decode b_Se_goOn 44 = .ok (.iconst 2, 1) := by decide +kernel
theorem d_Se_goOn_45 : decode b_Se_goOn 45 = .ok (.ireturn, 1) := by decide +kernel
theorem d_Se_goOn_46 : decode b_Se_goOn 46 = .ok (.aload_n 0, 1) := by decide +kernel
theorem d_Se_goOn_47 : decode b_Se_goOn 47 = .ok (.getfield 31, 3) := by decide +kernel
theorem d_Se_goOn_50 : decode b_Se_goOn 50 = .ok (.ifCond .eq 7, 3) := by decide +kernel
theorem d_Se_goOn_53 : decode b_Se_goOn 53 = .ok (.iconst 0, 1) := by decide +kernel
theorem d_Se_goOn_54 : decode b_Se_goOn 54 = .ok (.goto 4, 3) := by decide +kernel
theorem d_Se_goOn_57 : decode b_Se_goOn 57 = .ok (.iconst 1, 1) := by decide +kernel
theorem d_Se_goOn_58 : decode b_Se_goOn 58 = .ok (.ireturn, 1) := by decide +kernel
abbrev b_Se_endWithoutColumns : ByteArray := prog_6_method_8_code
def y_Se_endWithoutColumns : MethodName := ⟨RSe, "endWithoutColumns", "()V"⟩
theorem k_Se_endWithoutColumns : Cond.code y_Se_endWithoutColumns b_Se_endWithoutColumns 1 none ∈ tt := (tt2 239 rfl rfl)
theorem i_Se_endWithoutColumns : Cond.instanceMethod y_Se_endWithoutColumns ∈ tt := (tt2 238 rfl rfl)
theorem l_Se_endWithoutColumns : Cond.selects RSe y_Se_endWithoutColumns y_Se_endWithoutColumns ∈ tt := (tt0 7 rfl rfl)
theorem d_Se_endWithoutColumns_0 : decode b_Se_endWithoutColumns 0 = .ok (.aload_n 0, 1) := by decide +kernel
theorem d_Se_endWithoutColumns_1 : decode b_Se_endWithoutColumns 1 = .ok (.aload_n 0, 1) := by decide +kernel
theorem d_Se_endWithoutColumns_2 : decode b_Se_endWithoutColumns 2 = .ok (.getfield 42, 3) := by decide +kernel
theorem d_Se_endWithoutColumns_5 : decode b_Se_endWithoutColumns 5 = .ok (.invokevirtual 77, 3) := by decide +kernel
theorem d_Se_endWithoutColumns_8 : decode b_Se_endWithoutColumns 8 = .ok (.putfield 31, 3) := by decide +kernel
theorem d_Se_endWithoutColumns_11 : decode b_Se_endWithoutColumns 11 = .ok (.aload_n 0, 1) := by decide +kernel
theorem d_Se_endWithoutColumns_12 : decode b_Se_endWithoutColumns 12 = .ok (.iconst 0, 1) := by decide +kernel
theorem d_Se_endWithoutColumns_13 : decode b_Se_endWithoutColumns 13 = .ok (.putfield 35, 3) := by decide +kernel
theorem d_Se_endWithoutColumns_16 : decode b_Se_endWithoutColumns 16 = .ok (.aload_n 0, 1) := by decide +kernel
theorem d_Se_endWithoutColumns_17 : decode b_Se_endWithoutColumns 17 = .ok (.iconst (-1), 1) := by decide +kernel
theorem d_Se_endWithoutColumns_18 : decode b_Se_endWithoutColumns 18 = .ok (.putfield 24, 3) := by decide +kernel
theorem d_Se_endWithoutColumns_21 : decode b_Se_endWithoutColumns 21 = .ok (.return_, 1) := by decide +kernel
abbrev b_Se_step : ByteArray := prog_6_method_9_code
def y_Se_step : MethodName := ⟨RSe, "step", "()V"⟩
theorem k_Se_step : Cond.code y_Se_step b_Se_step 3 none ∈ tt := (tt3 8 rfl rfl)
theorem i_Se_step : Cond.instanceMethod y_Se_step ∈ tt := (tt3 7 rfl rfl)
theorem l_Se_step : Cond.selects RSe y_Se_step y_Se_step ∈ tt := (tt0 8 rfl rfl)
theorem d_Se_step_0 : decode b_Se_step 0 = .ok (.aload_n 0, 1) := by decide +kernel
theorem d_Se_step_1 : decode b_Se_step 1 = .ok (.getfield 9, 3) := by decide +kernel
theorem d_Se_step_4 : decode b_Se_step 4 = .ok (.aload_n 0, 1) := by decide +kernel
theorem d_Se_step_5 : decode b_Se_step 5 = .ok (.getfield 24, 3) := by decide +kernel
theorem d_Se_step_8 : decode b_Se_step 8 = .ok (.iaload, 1) := by decide +kernel
theorem d_Se_step_9 : decode b_Se_step 9 = .ok (.istore_n 1, 1) := by decide +kernel
theorem d_Se_step_10 : decode b_Se_step 10 = .ok (.aload_n 0, 1) := by decide +kernel
theorem d_Se_step_11 : decode b_Se_step 11 = .ok (.getfield 18, 3) := by decide +kernel
theorem d_Se_step_14 : decode b_Se_step 14 = .ok (.aload_n 0, 1) := by decide +kernel
theorem d_Se_step_15 : decode b_Se_step 15 = .ok (.getfield 24, 3) := by decide +kernel
theorem d_Se_step_18 : decode b_Se_step 18 = .ok (.iaload, 1) := by decide +kernel
theorem d_Se_step_19 : decode b_Se_step 19 = .ok (.aload_n 0, 1) := by decide +kernel
theorem d_Se_step_20 : decode b_Se_step 20 = .ok (.getfield 38, 3) := by decide +kernel
theorem d_Se_step_23 : decode b_Se_step 23 = .ok (.aload_n 0, 1) := by decide +kernel
theorem d_Se_step_24 : decode b_Se_step 24 = .ok (.getfield 24, 3) := by decide +kernel
theorem d_Se_step_27 : decode b_Se_step 27 = .ok (.invokevirtual 52, 3) := by decide +kernel
theorem d_Se_step_30 : decode b_Se_step 30 = .ok (.iload_n 1, 1) := by decide +kernel
theorem d_Se_step_31 : decode b_Se_step 31 = .ok (.imul, 1) := by decide +kernel
theorem d_Se_step_32 : decode b_Se_step 32 = .ok (.iadd, 1) := by decide +kernel
theorem d_Se_step_33 : decode b_Se_step 33 = .ok (.istore_n 2, 1) := by decide +kernel
theorem d_Se_step_34 : decode b_Se_step 34 = .ok (.aload_n 0, 1) := by decide +kernel
theorem d_Se_step_35 : decode b_Se_step 35 = .ok (.dup, 1) := by decide +kernel
theorem d_Se_step_36 : decode b_Se_step 36 = .ok (.getfield 28, 3) := by decide +kernel
theorem d_Se_step_39 : decode b_Se_step 39 = .ok (.iconst 1, 1) := by decide +kernel
theorem d_Se_step_40 : decode b_Se_step 40 = .ok (.iadd, 1) := by decide +kernel
theorem d_Se_step_41 : decode b_Se_step 41 = .ok (.putfield 28, 3) := by decide +kernel
theorem d_Se_step_44 : decode b_Se_step 44 = .ok (.aload_n 0, 1) := by decide +kernel
theorem d_Se_step_45 : decode b_Se_step 45 = .ok (.getfield 18, 3) := by decide +kernel
theorem d_Se_step_48 : decode b_Se_step 48 = .ok (.aload_n 0, 1) := by decide +kernel
theorem d_Se_step_49 : decode b_Se_step 49 = .ok (.getfield 24, 3) := by decide +kernel
theorem d_Se_step_52 : decode b_Se_step 52 = .ok (.iconst 1, 1) := by decide +kernel
theorem d_Se_step_53 : decode b_Se_step 53 = .ok (.iadd, 1) := by decide +kernel
theorem d_Se_step_54 : decode b_Se_step 54 = .ok (.iload_n 2, 1) := by decide +kernel
theorem d_Se_step_55 : decode b_Se_step 55 = .ok (.iastore, 1) := by decide +kernel
theorem d_Se_step_56 : decode b_Se_step 56 = .ok (.aload_n 0, 1) := by decide +kernel
theorem d_Se_step_57 : decode b_Se_step 57 = .ok (.iload_n 2, 1) := by decide +kernel
theorem d_Se_step_58 : decode b_Se_step 58 = .ok (.aload_n 0, 1) := by decide +kernel
theorem d_Se_step_59 : decode b_Se_step 59 = .ok (.getfield 21, 3) := by decide +kernel
theorem d_Se_step_62 : decode b_Se_step 62 = .ok (.aload_n 0, 1) := by decide +kernel
theorem d_Se_step_63 : decode b_Se_step 63 = .ok (.getfield 24, 3) := by decide +kernel
theorem d_Se_step_66 : decode b_Se_step 66 = .ok (.iconst 1, 1) := by decide +kernel
theorem d_Se_step_67 : decode b_Se_step 67 = .ok (.iadd, 1) := by decide +kernel
theorem d_Se_step_68 : decode b_Se_step 68 = .ok (.iaload, 1) := by decide +kernel
theorem d_Se_step_69 : decode b_Se_step 69 = .ok (.iadd, 1) := by decide +kernel
theorem d_Se_step_70 : decode b_Se_step 70 = .ok (.invokevirtual 81, 3) := by decide +kernel
theorem d_Se_step_73 : decode b_Se_step 73 = .ok (.ifCond .eq 18, 3) := by decide +kernel
theorem d_Se_step_76 : decode b_Se_step 76 = .ok (.aload_n 0, 1) := by decide +kernel
theorem d_Se_step_77 : decode b_Se_step 77 = .ok (.getfield 42, 3) := by decide +kernel
theorem d_Se_step_80 : decode b_Se_step 80 = .ok (.aload_n 0, 1) := by decide +kernel
theorem d_Se_step_81 : decode b_Se_step 81 = .ok (.getfield 24, 3) := by decide +kernel
theorem d_Se_step_84 : decode b_Se_step 84 = .ok (.iload_n 1, 1) := by decide +kernel
theorem d_Se_step_85 : decode b_Se_step 85 = .ok (.invokevirtual 85, 3) := by decide +kernel
theorem d_Se_step_88 : decode b_Se_step 88 = .ok (.ifCond .ne 10, 3) := by decide +kernel
theorem d_Se_step_91 : decode b_Se_step 91 = .ok (.aload_n 0, 1) := by decide +kernel
theorem d_Se_step_92 : decode b_Se_step 92 = .ok (.invokevirtual 89, 3) := by decide +kernel
theorem d_Se_step_95 : decode b_Se_step 95 = .ok (.goto 61, 3) := by decide +kernel
theorem d_Se_step_98 : decode b_Se_step 98 = .ok (.aload_n 0, 1) := by decide +kernel
theorem d_Se_step_99 : decode b_Se_step 99 = .ok (.getfield 24, 3) := by decide +kernel
theorem d_Se_step_102 : decode b_Se_step 102 = .ok (.iconst 1, 1) := by decide +kernel
theorem d_Se_step_103 : decode b_Se_step 103 = .ok (.iadd, 1) := by decide +kernel
theorem d_Se_step_104 : decode b_Se_step 104 = .ok (.aload_n 0, 1) := by decide +kernel
theorem d_Se_step_105 : decode b_Se_step 105 = .ok (.getfield 38, 3) := by decide +kernel
theorem d_Se_step_108 : decode b_Se_step 108 = .ok (.invokevirtual 46, 3) := by decide +kernel
theorem d_Se_step_111 : decode b_Se_step 111 = .ok (.if_icmp .ge 36, 3) := by decide +kernel
theorem d_Se_step_114 : decode b_Se_step 114 = .ok (.aload_n 0, 1) := by decide +kernel
theorem d_Se_step_115 : decode b_Se_step 115 = .ok (.dup, 1) := by decide +kernel
theorem d_Se_step_116 : decode b_Se_step 116 = .ok (.getfield 24, 3) := by decide +kernel
theorem d_Se_step_119 : decode b_Se_step 119 = .ok (.iconst 1, 1) := by decide +kernel
theorem d_Se_step_120 : decode b_Se_step 120 = .ok (.iadd, 1) := by decide +kernel
theorem d_Se_step_121 : decode b_Se_step 121 = .ok (.putfield 24, 3) := by decide +kernel
theorem d_Se_step_124 : decode b_Se_step 124 = .ok (.aload_n 0, 1) := by decide +kernel
theorem d_Se_step_125 : decode b_Se_step 125 = .ok (.getfield 9, 3) := by decide +kernel
theorem d_Se_step_128 : decode b_Se_step 128 = .ok (.aload_n 0, 1) := by decide +kernel
theorem d_Se_step_129 : decode b_Se_step 129 = .ok (.getfield 24, 3) := by decide +kernel
theorem d_Se_step_132 : decode b_Se_step 132 = .ok (.aload_n 0, 1) := by decide +kernel
theorem d_Se_step_133 : decode b_Se_step 133 = .ok (.getfield 38, 3) := by decide +kernel
theorem d_Se_step_136 : decode b_Se_step 136 = .ok (.aload_n 0, 1) := by decide +kernel
theorem d_Se_step_137 : decode b_Se_step 137 = .ok (.getfield 24, 3) := by decide +kernel
theorem d_Se_step_140 : decode b_Se_step 140 = .ok (.invokevirtual 56, 3) := by decide +kernel
theorem d_Se_step_143 : decode b_Se_step 143 = .ok (.iastore, 1) := by decide +kernel
theorem d_Se_step_144 : decode b_Se_step 144 = .ok (.goto 12, 3) := by decide +kernel
theorem d_Se_step_147 : decode b_Se_step 147 = .ok (.aload_n 0, 1) := by decide +kernel
theorem d_Se_step_148 : decode b_Se_step 148 = .ok (.iload_n 2, 1) := by decide +kernel
theorem d_Se_step_149 : decode b_Se_step 149 = .ok (.invokevirtual 92, 3) := by decide +kernel
theorem d_Se_step_152 : decode b_Se_step 152 = .ok (.aload_n 0, 1) := by decide +kernel
theorem d_Se_step_153 : decode b_Se_step 153 = .ok (.invokevirtual 89, 3) := by decide +kernel
theorem d_Se_step_156 : decode b_Se_step 156 = .ok (.return_, 1) := by decide +kernel
abbrev b_Se_isWorthwhile : ByteArray := prog_6_method_10_code
def y_Se_isWorthwhile : MethodName := ⟨RSe, "isWorthwhile", "(I)Z"⟩
theorem k_Se_isWorthwhile : Cond.code y_Se_isWorthwhile b_Se_isWorthwhile 2 (some .boolean) ∈ tt := (tt3 12 rfl rfl)
theorem i_Se_isWorthwhile : Cond.instanceMethod y_Se_isWorthwhile ∈ tt := (tt3 11 rfl rfl)
theorem l_Se_isWorthwhile : Cond.selects RSe y_Se_isWorthwhile y_Se_isWorthwhile ∈ tt := (tt0 9 rfl rfl)
theorem d_Se_isWorthwhile_0 : decode b_Se_isWorthwhile 0 = .ok (.aload_n 0, 1) := by decide +kernel
theorem d_Se_isWorthwhile_1 : decode b_Se_isWorthwhile 1 = .ok (.getfield 31, 3) := by decide +kernel
theorem d_Se_isWorthwhile_4 : decode b_Se_isWorthwhile 4 = .ok (.ifCond .eq 11, 3) := by decide +kernel
theorem d_Se_isWorthwhile_7 : decode b_Se_isWorthwhile 7 = .ok (.iload_n 1, 1) := by decide +kernel
theorem d_Se_isWorthwhile_8 : decode b_Se_isWorthwhile 8 = .ok (.aload_n 0, 1) := by decide +kernel
theorem d_Se_isWorthwhile_9 : decode b_Se_isWorthwhile 9 = .ok (.getfield 35, 3) := by decide +kernel
theorem d_Se_isWorthwhile_12 : decode b_Se_isWorthwhile 12 = .ok (.if_icmp .le 7, 3) := by decide +kernel
theorem d_Se_isWorthwhile_15 : decode b_Se_isWorthwhile 15 = .ok (.iconst 1, 1) := by decide +kernel
theorem d_Se_isWorthwhile_16 : decode b_Se_isWorthwhile 16 = .ok (.goto 4, 3) := by decide +kernel
theorem d_Se_isWorthwhile_19 : decode b_Se_isWorthwhile 19 = .ok (.iconst 0, 1) := by decide +kernel
theorem d_Se_isWorthwhile_20 : decode b_Se_isWorthwhile 20 = .ok (.ireturn, 1) := by decide +kernel
abbrev b_Se_keep : ByteArray := prog_6_method_11_code
def y_Se_keep : MethodName := ⟨RSe, "keep", "(I)V"⟩
theorem k_Se_keep : Cond.code y_Se_keep b_Se_keep 2 none ∈ tt := (tt3 28 rfl rfl)
theorem i_Se_keep : Cond.instanceMethod y_Se_keep ∈ tt := (tt3 27 rfl rfl)
theorem l_Se_keep : Cond.selects RSe y_Se_keep y_Se_keep ∈ tt := (tt0 11 rfl rfl)
theorem d_Se_keep_0 : decode b_Se_keep 0 = .ok (.aload_n 0, 1) := by decide +kernel
theorem d_Se_keep_1 : decode b_Se_keep 1 = .ok (.iconst 1, 1) := by decide +kernel
theorem d_Se_keep_2 : decode b_Se_keep 2 = .ok (.putfield 31, 3) := by decide +kernel
theorem d_Se_keep_5 : decode b_Se_keep 5 = .ok (.aload_n 0, 1) := by decide +kernel
theorem d_Se_keep_6 : decode b_Se_keep 6 = .ok (.iload_n 1, 1) := by decide +kernel
theorem d_Se_keep_7 : decode b_Se_keep 7 = .ok (.putfield 35, 3) := by decide +kernel
theorem d_Se_keep_10 : decode b_Se_keep 10 = .ok (.aload_n 0, 1) := by decide +kernel
theorem d_Se_keep_11 : decode b_Se_keep 11 = .ok (.getfield 9, 3) := by decide +kernel
theorem d_Se_keep_14 : decode b_Se_keep 14 = .ok (.iconst 0, 1) := by decide +kernel
theorem d_Se_keep_15 : decode b_Se_keep 15 = .ok (.aload_n 0, 1) := by decide +kernel
theorem d_Se_keep_16 : decode b_Se_keep 16 = .ok (.getfield 15, 3) := by decide +kernel
theorem d_Se_keep_19 : decode b_Se_keep 19 = .ok (.iconst 0, 1) := by decide +kernel
theorem d_Se_keep_20 : decode b_Se_keep 20 = .ok (.aload_n 0, 1) := by decide +kernel
theorem d_Se_keep_21 : decode b_Se_keep 21 = .ok (.getfield 38, 3) := by decide +kernel
theorem d_Se_keep_24 : decode b_Se_keep 24 = .ok (.invokevirtual 46, 3) := by decide +kernel
theorem d_Se_keep_27 : decode b_Se_keep 27 = .ok (.invokestatic 96, 3) := by decide +kernel
theorem d_Se_keep_30 : decode b_Se_keep 30 = .ok (.return_, 1) := by decide +kernel
abbrev b_Se_toNextNumber : ByteArray := prog_6_method_12_code
def y_Se_toNextNumber : MethodName := ⟨RSe, "toNextNumber", "()V"⟩
theorem k_Se_toNextNumber : Cond.code y_Se_toNextNumber b_Se_toNextNumber 1 none ∈ tt := (tt3 24 rfl rfl)
theorem i_Se_toNextNumber : Cond.instanceMethod y_Se_toNextNumber ∈ tt := (tt3 23 rfl rfl)
theorem l_Se_toNextNumber : Cond.selects RSe y_Se_toNextNumber y_Se_toNextNumber ∈ tt := (tt0 10 rfl rfl)
theorem d_Se_toNextNumber_0 : decode b_Se_toNextNumber 0 = .ok (.aload_n 0, 1) := by decide +kernel
theorem d_Se_toNextNumber_1 : decode b_Se_toNextNumber 1 = .ok (.getfield 24, 3) := by decide +kernel
theorem d_Se_toNextNumber_4 : decode b_Se_toNextNumber 4 = .ok (.ifCond .lt 28, 3) := by decide +kernel
theorem d_Se_toNextNumber_7 : decode b_Se_toNextNumber 7 = .ok (.aload_n 0, 1) := by decide +kernel
theorem d_Se_toNextNumber_8 : decode b_Se_toNextNumber 8 = .ok (.getfield 9, 3) := by decide +kernel
theorem d_Se_toNextNumber_11 : decode b_Se_toNextNumber 11 = .ok (.aload_n 0, 1) := by decide +kernel
theorem d_Se_toNextNumber_12 : decode b_Se_toNextNumber 12 = .ok (.getfield 24, 3) := by decide +kernel
theorem d_Se_toNextNumber_15 : decode b_Se_toNextNumber 15 = .ok (.iaload, 1) := by decide +kernel
theorem d_Se_toNextNumber_16 : decode b_Se_toNextNumber 16 = .ok (.ifCond .ne 16, 3) := by decide +kernel
theorem d_Se_toNextNumber_19 : decode b_Se_toNextNumber 19 = .ok (.aload_n 0, 1) := by decide +kernel
theorem d_Se_toNextNumber_20 : decode b_Se_toNextNumber 20 = .ok (.dup, 1) := by decide +kernel
theorem d_Se_toNextNumber_21 : decode b_Se_toNextNumber 21 = .ok (.getfield 24, 3) := by decide +kernel
theorem d_Se_toNextNumber_24 : decode b_Se_toNextNumber 24 = .ok (.iconst 1, 1) := by decide +kernel
theorem d_Se_toNextNumber_25 : decode b_Se_toNextNumber 25 = .ok (.isub, 1) := by decide +kernel
theorem d_Se_toNextNumber_26 : decode b_Se_toNextNumber 26 = .ok (.putfield 24, 3) := by decide +kernel
theorem d_Se_toNextNumber_29 : decode b_Se_toNextNumber 29 = .ok (.goto (-29), 3) := by decide +kernel
theorem d_Se_toNextNumber_32 : decode b_Se_toNextNumber 32 = .ok (.aload_n 0, 1) := by decide +kernel
theorem d_Se_toNextNumber_33 : decode b_Se_toNextNumber 33 = .ok (.getfield 24, 3) := by decide +kernel
theorem d_Se_toNextNumber_36 : decode b_Se_toNextNumber 36 = .ok (.ifCond .lt 16, 3) := by decide +kernel
theorem d_Se_toNextNumber_39 : decode b_Se_toNextNumber 39 = .ok (.aload_n 0, 1) := by decide +kernel
theorem d_Se_toNextNumber_40 : decode b_Se_toNextNumber 40 = .ok (.getfield 9, 3) := by decide +kernel
theorem d_Se_toNextNumber_43 : decode b_Se_toNextNumber 43 = .ok (.aload_n 0, 1) := by decide +kernel
theorem d_Se_toNextNumber_44 : decode b_Se_toNextNumber 44 = .ok (.getfield 24, 3) := by decide +kernel
theorem d_Se_toNextNumber_47 : decode b_Se_toNextNumber 47 = .ok (.dup2, 1) := by decide +kernel
theorem d_Se_toNextNumber_48 : decode b_Se_toNextNumber 48 = .ok (.iaload, 1) := by decide +kernel
theorem d_Se_toNextNumber_49 : decode b_Se_toNextNumber 49 = .ok (.iconst 1, 1) := by decide +kernel
theorem d_Se_toNextNumber_50 : decode b_Se_toNextNumber 50 = .ok (.isub, 1) := by decide +kernel
theorem d_Se_toNextNumber_51 : decode b_Se_toNextNumber 51 = .ok (.iastore, 1) := by decide +kernel
theorem d_Se_toNextNumber_52 : decode b_Se_toNextNumber 52 = .ok (.return_, 1) := by decide +kernel
abbrev b_JM_floorDiv : ByteArray := prog_13_method_49_code
def y_JM_floorDiv : MethodName := ⟨RJM, "floorDiv", "(JJ)J"⟩
theorem k_JM_floorDiv : Cond.code y_JM_floorDiv b_JM_floorDiv 6 (some .long) ∈ tt := (tt1 197 rfl rfl)
theorem s_JM_floorDiv : Cond.static y_JM_floorDiv ∈ tt := (tt1 196 rfl rfl)
theorem d_JM_floorDiv_0 : decode b_JM_floorDiv 0 = .ok (.lload_n 0, 1) := by decide +kernel
theorem d_JM_floorDiv_1 : decode b_JM_floorDiv 1 = .ok (.lload_n 2, 1) := by decide +kernel
theorem d_JM_floorDiv_2 : decode b_JM_floorDiv 2 = .ok (.ldiv, 1) := by decide +kernel
theorem d_JM_floorDiv_3 : decode b_JM_floorDiv 3 = .ok (.lstore 4, 2) := by decide +kernel
theorem d_JM_floorDiv_5 : decode b_JM_floorDiv 5 = .ok (.lload_n 0, 1) := by decide +kernel
theorem d_JM_floorDiv_6 : decode b_JM_floorDiv 6 = .ok (.lload_n 2, 1) := by decide +kernel
theorem d_JM_floorDiv_7 : decode b_JM_floorDiv 7 = .ok (.lxor, 1) := by decide +kernel
theorem d_JM_floorDiv_8 : decode b_JM_floorDiv 8 = .ok (.lconst 0, 1) := by decide +kernel
theorem d_JM_floorDiv_9 : decode b_JM_floorDiv 9 = .ok (.lcmp, 1) := by decide +kernel
theorem d_JM_floorDiv_10 : decode b_JM_floorDiv 10 = .ok (.ifCond .ge 17, 3) := by decide +kernel
theorem d_JM_floorDiv_13 : decode b_JM_floorDiv 13 = .ok (.lload 4, 2) := by decide +kernel
theorem d_JM_floorDiv_15 : decode b_JM_floorDiv 15 = .ok (.lload_n 2, 1) := by decide +kernel
theorem d_JM_floorDiv_16 : decode b_JM_floorDiv 16 = .ok (.lmul, 1) := by decide +kernel
theorem d_JM_floorDiv_17 : decode b_JM_floorDiv 17 = .ok (.lload_n 0, 1) := by decide +kernel
theorem d_JM_floorDiv_18 : decode b_JM_floorDiv 18 = .ok (.lcmp, 1) := by decide +kernel
theorem d_JM_floorDiv_19 : decode b_JM_floorDiv 19 = .ok (.ifCond .eq 8, 3) := by decide +kernel
theorem d_JM_floorDiv_22 : decode b_JM_floorDiv 22 = .ok (.lload 4, 2) := by decide +kernel
theorem d_JM_floorDiv_24 : decode b_JM_floorDiv 24 = .ok (.lconst 1, 1) := by decide +kernel
theorem d_JM_floorDiv_25 : decode b_JM_floorDiv 25 = .ok (.lsub, 1) := by decide +kernel
theorem d_JM_floorDiv_26 : decode b_JM_floorDiv 26 = .ok (.lreturn, 1) := by decide +kernel
theorem d_JM_floorDiv_27 : decode b_JM_floorDiv 27 = .ok (.lload 4, 2) := by decide +kernel
theorem d_JM_floorDiv_29 : decode b_JM_floorDiv 29 = .ok (.lreturn, 1) := by decide +kernel
