abbrev b_Co_init : ByteArray := prog_2_method_1_code
def y_Co_init : MethodName := ⟨RCo, "<init>", "()V"⟩
theorem k_Co_init : Cond.code y_Co_init b_Co_init 1 none ∈ tt := (tt1 29 rfl rfl)
theorem i_Co_init : Cond.instanceMethod y_Co_init ∈ tt := (tt1 28 rfl rfl)
theorem d_Co_init_0 : decode b_Co_init 0 = .ok (.aload_n 0, 1) := by decide +kernel
theorem d_Co_init_1 : decode b_Co_init 1 = .ok (.invokespecial 3, 3) := by decide +kernel
theorem d_Co_init_4 : decode b_Co_init 4 = .ok (.aload_n 0, 1) := by decide +kernel
theorem d_Co_init_5 : decode b_Co_init 5 = .ok (.iconst 5, 1) := by decide +kernel
theorem d_Co_init_6 : decode b_Co_init 6 = .ok (.newarray .int, 2) := by decide +kernel
theorem d_Co_init_8 : decode b_Co_init 8 = .ok (.putfield 9, 3) := by decide +kernel
theorem d_Co_init_11 : decode b_Co_init 11 = .ok (.aload_n 0, 1) := by decide +kernel
theorem d_Co_init_12 : decode b_Co_init 12 = .ok (.iconst 5, 1) := by decide +kernel
theorem d_Co_init_13 : decode b_Co_init 13 = .ok (.newarray .int, 2) := by decide +kernel
theorem d_Co_init_15 : decode b_Co_init 15 = .ok (.putfield 15, 3) := by decide +kernel
theorem d_Co_init_18 : decode b_Co_init 18 = .ok (.aload_n 0, 1) := by decide +kernel
theorem d_Co_init_19 : decode b_Co_init 19 = .ok (.iconst 0, 1) := by decide +kernel
theorem d_Co_init_20 : decode b_Co_init 20 = .ok (.putfield 18, 3) := by decide +kernel
theorem d_Co_init_23 : decode b_Co_init 23 = .ok (.return_, 1) := by decide +kernel
abbrev b_Co_count : ByteArray := prog_2_method_2_code
def y_Co_count : MethodName := ⟨RCo, "count", "()I"⟩
theorem k_Co_count : Cond.code y_Co_count b_Co_count 1 (some .int) ∈ tt := (tt1 177 rfl rfl)
theorem i_Co_count : Cond.instanceMethod y_Co_count ∈ tt := (tt1 175 rfl rfl)
theorem l_Co_count : Cond.selects RCo y_Co_count y_Co_count ∈ tt := (tt1 176 rfl rfl)
theorem d_Co_count_0 : decode b_Co_count 0 = .ok (.aload_n 0, 1) := by decide +kernel
theorem d_Co_count_1 : decode b_Co_count 1 = .ok (.getfield 18, 3) := by decide +kernel
theorem d_Co_count_4 : decode b_Co_count 4 = .ok (.ireturn, 1) := by decide +kernel
abbrev b_Co_worth : ByteArray := prog_2_method_3_code
def y_Co_worth : MethodName := ⟨RCo, "worth", "(I)I"⟩
theorem k_Co_worth : Cond.code y_Co_worth b_Co_worth 2 (some .int) ∈ tt := (tt1 182 rfl rfl)
theorem i_Co_worth : Cond.instanceMethod y_Co_worth ∈ tt := (tt1 180 rfl rfl)
theorem l_Co_worth : Cond.selects RCo y_Co_worth y_Co_worth ∈ tt := (tt1 181 rfl rfl)
theorem d_Co_worth_0 : decode b_Co_worth 0 = .ok (.aload_n 0, 1) := by decide +kernel
theorem d_Co_worth_1 : decode b_Co_worth 1 = .ok (.getfield 9, 3) := by decide +kernel
theorem d_Co_worth_4 : decode b_Co_worth 4 = .ok (.iload_n 1, 1) := by decide +kernel
theorem d_Co_worth_5 : decode b_Co_worth 5 = .ok (.iaload, 1) := by decide +kernel
theorem d_Co_worth_6 : decode b_Co_worth 6 = .ok (.ireturn, 1) := by decide +kernel
abbrev b_Co_top : ByteArray := prog_2_method_4_code
def y_Co_top : MethodName := ⟨RCo, "top", "(I)I"⟩
theorem k_Co_top : Cond.code y_Co_top b_Co_top 2 (some .int) ∈ tt := (tt1 194 rfl rfl)
theorem i_Co_top : Cond.instanceMethod y_Co_top ∈ tt := (tt1 192 rfl rfl)
theorem l_Co_top : Cond.selects RCo y_Co_top y_Co_top ∈ tt := (tt1 193 rfl rfl)
theorem d_Co_top_0 : decode b_Co_top 0 = .ok (.aload_n 0, 1) := by decide +kernel
theorem d_Co_top_1 : decode b_Co_top 1 = .ok (.getfield 15, 3) := by decide +kernel
theorem d_Co_top_4 : decode b_Co_top 4 = .ok (.iload_n 1, 1) := by decide +kernel
theorem d_Co_top_5 : decode b_Co_top 5 = .ok (.iaload, 1) := by decide +kernel
theorem d_Co_top_6 : decode b_Co_top 6 = .ok (.ireturn, 1) := by decide +kernel
abbrev b_Co_add : ByteArray := prog_2_method_5_code
def y_Co_add : MethodName := ⟨RCo, "add", "(II)I"⟩
theorem k_Co_add : Cond.code y_Co_add b_Co_add 3 (some .int) ∈ tt := (tt2 95 rfl rfl)
theorem i_Co_add : Cond.instanceMethod y_Co_add ∈ tt := (tt2 93 rfl rfl)
theorem l_Co_add : Cond.selects RCo y_Co_add y_Co_add ∈ tt := (tt2 94 rfl rfl)
theorem d_Co_add_0 : decode b_Co_add 0 = .ok (.aload_n 0, 1) := by decide +kernel
theorem d_Co_add_1 : decode b_Co_add 1 = .ok (.getfield 9, 3) := by decide +kernel
theorem d_Co_add_4 : decode b_Co_add 4 = .ok (.aload_n 0, 1) := by decide +kernel
theorem d_Co_add_5 : decode b_Co_add 5 = .ok (.getfield 18, 3) := by decide +kernel
theorem d_Co_add_8 : decode b_Co_add 8 = .ok (.iload_n 1, 1) := by decide +kernel
theorem d_Co_add_9 : decode b_Co_add 9 = .ok (.iastore, 1) := by decide +kernel
theorem d_Co_add_10 : decode b_Co_add 10 = .ok (.aload_n 0, 1) := by decide +kernel
theorem d_Co_add_11 : decode b_Co_add 11 = .ok (.getfield 15, 3) := by decide +kernel
theorem d_Co_add_14 : decode b_Co_add 14 = .ok (.aload_n 0, 1) := by decide +kernel
theorem d_Co_add_15 : decode b_Co_add 15 = .ok (.getfield 18, 3) := by decide +kernel
theorem d_Co_add_18 : decode b_Co_add 18 = .ok (.iload_n 2, 1) := by decide +kernel
theorem d_Co_add_19 : decode b_Co_add 19 = .ok (.iastore, 1) := by decide +kernel
theorem d_Co_add_20 : decode b_Co_add 20 = .ok (.aload_n 0, 1) := by decide +kernel
theorem d_Co_add_21 : decode b_Co_add 21 = .ok (.dup, 1) := by decide +kernel
theorem d_Co_add_22 : decode b_Co_add 22 = .ok (.getfield 18, 3) := by decide +kernel
theorem d_Co_add_25 : decode b_Co_add 25 = .ok (.iconst 1, 1) := by decide +kernel
theorem d_Co_add_26 : decode b_Co_add 26 = .ok (.iadd, 1) := by decide +kernel
theorem d_Co_add_27 : decode b_Co_add 27 = .ok (.putfield 18, 3) := by decide +kernel
theorem d_Co_add_30 : decode b_Co_add 30 = .ok (.aload_n 0, 1) := by decide +kernel
theorem d_Co_add_31 : decode b_Co_add 31 = .ok (.getfield 18, 3) := by decide +kernel
theorem d_Co_add_34 : decode b_Co_add 34 = .ok (.iconst 1, 1) := by decide +kernel
theorem d_Co_add_35 : decode b_Co_add 35 = .ok (.isub, 1) := by decide +kernel
theorem d_Co_add_36 : decode b_Co_add 36 = .ok (.ireturn, 1) := by decide +kernel
abbrev b_Li_init : ByteArray := prog_4_method_1_code
def y_Li_init : MethodName := ⟨RLi, "<init>", "()V"⟩
theorem k_Li_init : Cond.code y_Li_init b_Li_init 1 none ∈ tt := (tt1 53 rfl rfl)
theorem i_Li_init : Cond.instanceMethod y_Li_init ∈ tt := (tt1 52 rfl rfl)
theorem d_Li_init_0 : decode b_Li_init 0 = .ok (.aload_n 0, 1) := by decide +kernel
theorem d_Li_init_1 : decode b_Li_init 1 = .ok (.invokespecial 3, 3) := by decide +kernel
theorem d_Li_init_4 : decode b_Li_init 4 = .ok (.aload_n 0, 1) := by decide +kernel
theorem d_Li_init_5 : decode b_Li_init 5 = .ok (.iconst 5, 1) := by decide +kernel
theorem d_Li_init_6 : decode b_Li_init 6 = .ok (.newarray .int, 2) := by decide +kernel
theorem d_Li_init_8 : decode b_Li_init 8 = .ok (.putfield 9, 3) := by decide +kernel
theorem d_Li_init_11 : decode b_Li_init 11 = .ok (.aload_n 0, 1) := by decide +kernel
theorem d_Li_init_12 : decode b_Li_init 12 = .ok (.iconst 0, 1) := by decide +kernel
theorem d_Li_init_13 : decode b_Li_init 13 = .ok (.putfield 15, 3) := by decide +kernel
theorem d_Li_init_16 : decode b_Li_init 16 = .ok (.aload_n 0, 1) := by decide +kernel
theorem d_Li_init_17 : decode b_Li_init 17 = .ok (.iconst 0, 1) := by decide +kernel
theorem d_Li_init_18 : decode b_Li_init 18 = .ok (.putfield 19, 3) := by decide +kernel
theorem d_Li_init_21 : decode b_Li_init 21 = .ok (.aload_n 0, 1) := by decide +kernel
theorem d_Li_init_22 : decode b_Li_init 22 = .ok (.iconst 0, 1) := by decide +kernel
theorem d_Li_init_23 : decode b_Li_init 23 = .ok (.putfield 22, 3) := by decide +kernel
theorem d_Li_init_26 : decode b_Li_init 26 = .ok (.aload_n 0, 1) := by decide +kernel
theorem d_Li_init_27 : decode b_Li_init 27 = .ok (.bipush 6, 2) := by decide +kernel
theorem d_Li_init_29 : decode b_Li_init 29 = .ok (.newarray .int, 2) := by decide +kernel
theorem d_Li_init_31 : decode b_Li_init 31 = .ok (.putfield 25, 3) := by decide +kernel
theorem d_Li_init_34 : decode b_Li_init 34 = .ok (.aload_n 0, 1) := by decide +kernel
theorem d_Li_init_35 : decode b_Li_init 35 = .ok (.bipush 6, 2) := by decide +kernel
theorem d_Li_init_37 : decode b_Li_init 37 = .ok (.newarray .int, 2) := by decide +kernel
theorem d_Li_init_39 : decode b_Li_init 39 = .ok (.putfield 28, 3) := by decide +kernel
theorem d_Li_init_42 : decode b_Li_init 42 = .ok (.return_, 1) := by decide +kernel
abbrev b_Li_rightSide : ByteArray := prog_4_method_2_code
def y_Li_rightSide : MethodName := ⟨RLi, "rightSide", "()I"⟩
theorem k_Li_rightSide : Cond.code y_Li_rightSide b_Li_rightSide 1 (some .int) ∈ tt := (tt1 173 rfl rfl)
theorem i_Li_rightSide : Cond.instanceMethod y_Li_rightSide ∈ tt := (tt1 171 rfl rfl)
theorem l_Li_rightSide : Cond.selects RLi y_Li_rightSide y_Li_rightSide ∈ tt := (tt1 172 rfl rfl)
theorem d_Li_rightSide_0 : decode b_Li_rightSide 0 = .ok (.aload_n 0, 1) := by decide +kernel
theorem d_Li_rightSide_1 : decode b_Li_rightSide 1 = .ok (.getfield 19, 3) := by decide +kernel
theorem d_Li_rightSide_4 : decode b_Li_rightSide 4 = .ok (.ireturn, 1) := by decide +kernel
abbrev b_Li_factorOf : ByteArray := prog_4_method_3_code
def y_Li_factorOf : MethodName := ⟨RLi, "factorOf", "(I)I"⟩
theorem k_Li_factorOf : Cond.code y_Li_factorOf b_Li_factorOf 2 (some .int) ∈ tt := (tt1 190 rfl rfl)
theorem i_Li_factorOf : Cond.instanceMethod y_Li_factorOf ∈ tt := (tt1 188 rfl rfl)
theorem l_Li_factorOf : Cond.selects RLi y_Li_factorOf y_Li_factorOf ∈ tt := (tt1 189 rfl rfl)
theorem d_Li_factorOf_0 : decode b_Li_factorOf 0 = .ok (.aload_n 0, 1) := by decide +kernel
theorem d_Li_factorOf_1 : decode b_Li_factorOf 1 = .ok (.getfield 9, 3) := by decide +kernel
theorem d_Li_factorOf_4 : decode b_Li_factorOf 4 = .ok (.iload_n 1, 1) := by decide +kernel
theorem d_Li_factorOf_5 : decode b_Li_factorOf 5 = .ok (.iaload, 1) := by decide +kernel
theorem d_Li_factorOf_6 : decode b_Li_factorOf 6 = .ok (.ireturn, 1) := by decide +kernel
abbrev b_Li_weight : ByteArray := prog_4_method_4_code
def y_Li_weight : MethodName := ⟨RLi, "weight", "()I"⟩
theorem k_Li_weight : Cond.code y_Li_weight b_Li_weight 1 (some .int) ∈ tt := (tt1 169 rfl rfl)
theorem i_Li_weight : Cond.instanceMethod y_Li_weight ∈ tt := (tt1 167 rfl rfl)
theorem l_Li_weight : Cond.selects RLi y_Li_weight y_Li_weight ∈ tt := (tt1 168 rfl rfl)
theorem d_Li_weight_0 : decode b_Li_weight 0 = .ok (.aload_n 0, 1) := by decide +kernel
theorem d_Li_weight_1 : decode b_Li_weight 1 = .ok (.getfield 22, 3) := by decide +kernel
theorem d_Li_weight_4 : decode b_Li_weight 4 = .ok (.ireturn, 1) := by decide +kernel
abbrev b_Li_setKind : ByteArray := prog_4_method_5_code
def y_Li_setKind : MethodName := ⟨RLi, "setKind", "(I)V"⟩
theorem k_Li_setKind : Cond.code y_Li_setKind b_Li_setKind 2 none ∈ tt := (tt2 136 rfl rfl)
theorem i_Li_setKind : Cond.instanceMethod y_Li_setKind ∈ tt := (tt2 134 rfl rfl)
theorem l_Li_setKind : Cond.selects RLi y_Li_setKind y_Li_setKind ∈ tt := (tt2 135 rfl rfl)
theorem d_Li_setKind_0 : decode b_Li_setKind 0 = .ok (.aload_n 0, 1) := by decide +kernel
theorem d_Li_setKind_1 : decode b_Li_setKind 1 = .ok (.iload_n 1, 1) := by decide +kernel
theorem d_Li_setKind_2 : decode b_Li_setKind 2 = .ok (.putfield 15, 3) := by decide +kernel
theorem d_Li_setKind_5 : decode b_Li_setKind 5 = .ok (.return_, 1) := by decide +kernel
abbrev b_Li_setRight : ByteArray := prog_4_method_6_code
def y_Li_setRight : MethodName := ⟨RLi, "setRight", "(I)V"⟩
theorem k_Li_setRight : Cond.code y_Li_setRight b_Li_setRight 2 none ∈ tt := (tt2 140 rfl rfl)
theorem i_Li_setRight : Cond.instanceMethod y_Li_setRight ∈ tt := (tt2 138 rfl rfl)
theorem l_Li_setRight : Cond.selects RLi y_Li_setRight y_Li_setRight ∈ tt := (tt2 139 rfl rfl)
theorem d_Li_setRight_0 : decode b_Li_setRight 0 = .ok (.aload_n 0, 1) := by decide +kernel
theorem d_Li_setRight_1 : decode b_Li_setRight 1 = .ok (.iload_n 1, 1) := by decide +kernel
theorem d_Li_setRight_2 : decode b_Li_setRight 2 = .ok (.putfield 19, 3) := by decide +kernel
theorem d_Li_setRight_5 : decode b_Li_setRight 5 = .ok (.return_, 1) := by decide +kernel
abbrev b_Li_setFactor : ByteArray := prog_4_method_7_code
def y_Li_setFactor : MethodName := ⟨RLi, "setFactor", "(II)V"⟩
theorem k_Li_setFactor : Cond.code y_Li_setFactor b_Li_setFactor 3 none ∈ tt := (tt2 186 rfl rfl)
theorem i_Li_setFactor : Cond.instanceMethod y_Li_setFactor ∈ tt := (tt2 184 rfl rfl)
theorem l_Li_setFactor : Cond.selects RLi y_Li_setFactor y_Li_setFactor ∈ tt := (tt2 185 rfl rfl)
theorem d_Li_setFactor_0 : decode b_Li_setFactor 0 = .ok (.aload_n 0, 1) := by decide +kernel
theorem d_Li_setFactor_1 : decode b_Li_setFactor 1 = .ok (.getfield 9, 3) := by decide +kernel
theorem d_Li_setFactor_4 : decode b_Li_setFactor 4 = .ok (.iload_n 1, 1) := by decide +kernel
theorem d_Li_setFactor_5 : decode b_Li_setFactor 5 = .ok (.iload_n 2, 1) := by decide +kernel
theorem d_Li_setFactor_6 : decode b_Li_setFactor 6 = .ok (.iastore, 1) := by decide +kernel
theorem d_Li_setFactor_7 : decode b_Li_setFactor 7 = .ok (.return_, 1) := by decide +kernel
abbrev b_Li_setWeight : ByteArray := prog_4_method_8_code
def y_Li_setWeight : MethodName := ⟨RLi, "setWeight", "(I)V"⟩
theorem k_Li_setWeight : Cond.code y_Li_setWeight b_Li_setWeight 2 none ∈ tt := (tt2 148 rfl rfl)
theorem i_Li_setWeight : Cond.instanceMethod y_Li_setWeight ∈ tt := (tt2 146 rfl rfl)
theorem l_Li_setWeight : Cond.selects RLi y_Li_setWeight y_Li_setWeight ∈ tt := (tt2 147 rfl rfl)
theorem d_Li_setWeight_0 : decode b_Li_setWeight 0 = .ok (.aload_n 0, 1) := by decide +kernel
theorem d_Li_setWeight_1 : decode b_Li_setWeight 1 = .ok (.iload_n 1, 1) := by decide +kernel
theorem d_Li_setWeight_2 : decode b_Li_setWeight 2 = .ok (.putfield 22, 3) := by decide +kernel
theorem d_Li_setWeight_5 : decode b_Li_setWeight 5 = .ok (.return_, 1) := by decide +kernel
abbrev b_Li_allowsWeight : ByteArray := prog_4_method_9_code
def y_Li_allowsWeight : MethodName := ⟨RLi, "allowsWeight", "(I)Z"⟩
theorem k_Li_allowsWeight : Cond.code y_Li_allowsWeight b_Li_allowsWeight 2 (some .boolean) ∈ tt := (tt3 91 rfl rfl)
theorem i_Li_allowsWeight : Cond.instanceMethod y_Li_allowsWeight ∈ tt := (tt3 89 rfl rfl)
theorem l_Li_allowsWeight : Cond.selects RLi y_Li_allowsWeight y_Li_allowsWeight ∈ tt := (tt3 90 rfl rfl)
theorem d_Li_allowsWeight_0 : decode b_Li_allowsWeight 0 = .ok (.aload_n 0, 1) := by decide +kernel
theorem d_Li_allowsWeight_1 : decode b_Li_allowsWeight 1 = .ok (.getfield 15, 3) := by decide +kernel
theorem d_Li_allowsWeight_4 : decode b_Li_allowsWeight 4 = .ok (.ifCond .ne 19, 3) := by decide +kernel
theorem d_Li_allowsWeight_7 : decode b_Li_allowsWeight 7 = .ok (.iload_n 1, 1) := by decide +kernel
theorem d_Li_allowsWeight_8 : decode b_Li_allowsWeight 8 = .ok (.ifCond .lt 13, 3) := by decide +kernel
theorem d_Li_allowsWeight_11 : decode b_Li_allowsWeight 11 = .ok (.iload_n 1, 1) := by decide +kernel
theorem d_Li_allowsWeight_12 : decode b_Li_allowsWeight 12 = .ok (.ldc 31, 2) := by decide +kernel
theorem d_Li_allowsWeight_14 : decode b_Li_allowsWeight 14 = .ok (.if_icmp .gt 7, 3) := by decide +kernel
theorem d_Li_allowsWeight_17 : decode b_Li_allowsWeight 17 = .ok (.iconst 1, 1) := by decide +kernel
theorem d_Li_allowsWeight_18 : decode b_Li_allowsWeight 18 = .ok (.goto 4, 3) := by decide +kernel
theorem d_Li_allowsWeight_21 : decode b_Li_allowsWeight 21 = .ok (.iconst 0, 1) := by decide +kernel
theorem d_Li_allowsWeight_22 : decode b_Li_allowsWeight 22 = .ok (.ireturn, 1) := by decide +kernel
theorem d_Li_allowsWeight_23 : decode b_Li_allowsWeight 23 = .ok (.iload_n 1, 1) := by decide +kernel
theorem d_Li_allowsWeight_24 : decode b_Li_allowsWeight 24 = .ok (.ifCond .gt 13, 3) := by decide +kernel
theorem d_Li_allowsWeight_27 : decode b_Li_allowsWeight 27 = .ok (.iload_n 1, 1) := by decide +kernel
theorem d_Li_allowsWeight_28 : decode b_Li_allowsWeight 28 = .ok (.ldc 32, 2) := by decide +kernel
theorem d_Li_allowsWeight_30 : decode b_Li_allowsWeight 30 = .ok (.if_icmp .lt 7, 3) := by decide +kernel
theorem d_Li_allowsWeight_33 : decode b_Li_allowsWeight 33 = .ok (.iconst 1, 1) := by decide +kernel
theorem d_Li_allowsWeight_34 : decode b_Li_allowsWeight 34 = .ok (.goto 4, 3) := by decide +kernel
theorem d_Li_allowsWeight_37 : decode b_Li_allowsWeight 37 = .ok (.iconst 0, 1) := by decide +kernel
theorem d_Li_allowsWeight_38 : decode b_Li_allowsWeight 38 = .ok (.ireturn, 1) := by decide +kernel
abbrev b_Li_holds : ByteArray := prog_4_method_10_code
def y_Li_holds : MethodName := ⟨RLi, "holds", "(I)Z"⟩
theorem k_Li_holds : Cond.code y_Li_holds b_Li_holds 2 (some .boolean) ∈ tt := (tt1 223 rfl rfl)
theorem i_Li_holds : Cond.instanceMethod y_Li_holds ∈ tt := (tt1 221 rfl rfl)
theorem l_Li_holds : Cond.selects RLi y_Li_holds y_Li_holds ∈ tt := (tt1 222 rfl rfl)
theorem d_Li_holds_0 : decode b_Li_holds 0 = .ok (.aload_n 0, 1) := by decide +kernel
theorem d_Li_holds_1 : decode b_Li_holds 1 = .ok (.getfield 15, 3) := by decide +kernel
theorem d_Li_holds_4 : decode b_Li_holds 4 = .ok (.ifCond .ne 19, 3) := by decide +kernel
theorem d_Li_holds_7 : decode b_Li_holds 7 = .ok (.iload_n 1, 1) := by decide +kernel
theorem d_Li_holds_8 : decode b_Li_holds 8 = .ok (.aload_n 0, 1) := by decide +kernel
theorem d_Li_holds_9 : decode b_Li_holds 9 = .ok (.getfield 19, 3) := by decide +kernel
theorem d_Li_holds_12 : decode b_Li_holds 12 = .ok (.if_icmp .gt 7, 3) := by decide +kernel
theorem d_Li_holds_15 : decode b_Li_holds 15 = .ok (.iconst 1, 1) := by decide +kernel
theorem d_Li_holds_16 : decode b_Li_holds 16 = .ok (.goto 20, 3) := by decide +kernel
theorem d_Li_holds_19 : decode b_Li_holds 19 = .ok (.iconst 0, 1) := by decide +kernel
theorem d_Li_holds_20 : decode b_Li_holds 20 = .ok (.goto 16, 3) := by decide +kernel
theorem d_Li_holds_23 : decode b_Li_holds 23 = .ok (.iload_n 1, 1) := by decide +kernel
theorem d_Li_holds_24 : decode b_Li_holds 24 = .ok (.aload_n 0, 1) := by decide +kernel
theorem d_Li_holds_25 : decode b_Li_holds 25 = .ok (.getfield 19, 3) := by decide +kernel
theorem d_Li_holds_28 : decode b_Li_holds 28 = .ok (.if_icmp .lt 7, 3) := by decide +kernel
theorem d_Li_holds_31 : decode b_Li_holds 31 = .ok (.iconst 1, 1) := by decide +kernel
theorem d_Li_holds_32 : decode b_Li_holds 32 = .ok (.goto 4, 3) := by decide +kernel
theorem d_Li_holds_35 : decode b_Li_holds 35 = .ok (.iconst 0, 1) := by decide +kernel
theorem d_Li_holds_36 : decode b_Li_holds 36 = .ok (.ireturn, 1) := by decide +kernel
abbrev b_Li_canHold : ByteArray := prog_4_method_11_code
def y_Li_canHold : MethodName := ⟨RLi, "canHold", "(LOrderBounds$Columns;)Z"⟩
theorem k_Li_canHold : Cond.code y_Li_canHold b_Li_canHold 4 (some .boolean) ∈ tt := (tt1 207 rfl rfl)
theorem i_Li_canHold : Cond.instanceMethod y_Li_canHold ∈ tt := (tt1 205 rfl rfl)
theorem l_Li_canHold : Cond.selects RLi y_Li_canHold y_Li_canHold ∈ tt := (tt1 206 rfl rfl)
theorem d_Li_canHold_0 : decode b_Li_canHold 0 = .ok (.iconst 0, 1) := by decide +kernel
theorem d_Li_canHold_1 : decode b_Li_canHold 1 = .ok (.istore_n 2, 1) := by decide +kernel
theorem d_Li_canHold_2 : decode b_Li_canHold 2 = .ok (.iconst 0, 1) := by decide +kernel
theorem d_Li_canHold_3 : decode b_Li_canHold 3 = .ok (.istore_n 3, 1) := by decide +kernel
theorem d_Li_canHold_4 : decode b_Li_canHold 4 = .ok (.iload_n 3, 1) := by decide +kernel
theorem d_Li_canHold_5 : decode b_Li_canHold 5 = .ok (.aload_n 1, 1) := by decide +kernel
theorem d_Li_canHold_6 : decode b_Li_canHold 6 = .ok (.invokevirtual 33, 3) := by decide +kernel
theorem d_Li_canHold_9 : decode b_Li_canHold 9 = .ok (.if_icmp .ge 18, 3) := by decide +kernel
theorem d_Li_canHold_12 : decode b_Li_canHold 12 = .ok (.iload_n 2, 1) := by decide +kernel
theorem d_Li_canHold_13 : decode b_Li_canHold 13 = .ok (.aload_n 0, 1) := by decide +kernel
theorem d_Li_canHold_14 : decode b_Li_canHold 14 = .ok (.aload_n 1, 1) := by decide +kernel
theorem d_Li_canHold_15 : decode b_Li_canHold 15 = .ok (.iload_n 3, 1) := by decide +kernel
theorem d_Li_canHold_16 : decode b_Li_canHold 16 = .ok (.invokevirtual 39, 3) := by decide +kernel
theorem d_Li_canHold_19 : decode b_Li_canHold 19 = .ok (.iadd, 1) := by decide +kernel
theorem d_Li_canHold_20 : decode b_Li_canHold 20 = .ok (.istore_n 2, 1) := by decide +kernel
theorem d_Li_canHold_21 : decode b_Li_canHold 21 = .ok (.iinc 3 1, 3) := by decide +kernel
theorem d_Li_canHold_24 : decode b_Li_canHold 24 = .ok (.goto (-20), 3) := by decide +kernel
theorem d_Li_canHold_27 : decode b_Li_canHold 27 = .ok (.aload_n 0, 1) := by decide +kernel
theorem d_Li_canHold_28 : decode b_Li_canHold 28 = .ok (.iload_n 2, 1) := by decide +kernel
theorem d_Li_canHold_29 : decode b_Li_canHold 29 = .ok (.invokevirtual 43, 3) := by decide +kernel
theorem d_Li_canHold_32 : decode b_Li_canHold 32 = .ok (.ireturn, 1) := by decide +kernel
abbrev b_Li_kindest : ByteArray := prog_4_method_12_code
def y_Li_kindest : MethodName := ⟨RLi, "kindest", "(LOrderBounds$Columns;I)I"⟩
theorem k_Li_kindest : Cond.code y_Li_kindest b_Li_kindest 4 (some .int) ∈ tt := (tt1 212 rfl rfl)
theorem i_Li_kindest : Cond.instanceMethod y_Li_kindest ∈ tt := (tt1 211 rfl rfl)
theorem l_Li_kindest : Cond.selects RLi y_Li_kindest y_Li_kindest ∈ tt := (tt0 0 rfl rfl)
theorem d_Li_kindest_0 : decode b_Li_kindest 0 = .ok (.aload_n 0, 1) := by decide +kernel
theorem d_Li_kindest_1 : decode b_Li_kindest 1 = .ok (.getfield 9, 3) := by decide +kernel
theorem d_Li_kindest_4 : decode b_Li_kindest 4 = .ok (.iload_n 2, 1) := by decide +kernel
theorem d_Li_kindest_5 : decode b_Li_kindest 5 = .ok (.iaload, 1) := by decide +kernel
theorem d_Li_kindest_6 : decode b_Li_kindest 6 = .ok (.aload_n 1, 1) := by decide +kernel
theorem d_Li_kindest_7 : decode b_Li_kindest 7 = .ok (.iload_n 2, 1) := by decide +kernel
theorem d_Li_kindest_8 : decode b_Li_kindest 8 = .ok (.invokevirtual 47, 3) := by decide +kernel
theorem d_Li_kindest_11 : decode b_Li_kindest 11 = .ok (.imul, 1) := by decide +kernel
theorem d_Li_kindest_12 : decode b_Li_kindest 12 = .ok (.istore_n 3, 1) := by decide +kernel
theorem d_Li_kindest_13 : decode b_Li_kindest 13 = .ok (.aload_n 0, 1) := by decide +kernel
theorem d_Li_kindest_14 : decode b_Li_kindest 14 = .ok (.getfield 15, 3) := by decide +kernel
theorem d_Li_kindest_17 : decode b_Li_kindest 17 = .ok (.ifCond .ne 11, 3) := by decide +kernel
theorem d_Li_kindest_20 : decode b_Li_kindest 20 = .ok (.iload_n 3, 1) := by decide +kernel
theorem d_Li_kindest_21 : decode b_Li_kindest 21 = .ok (.iconst 0, 1) := by decide +kernel
theorem d_Li_kindest_22 : decode b_Li_kindest 22 = .ok (.invokestatic 51, 3) := by decide +kernel
theorem d_Li_kindest_25 : decode b_Li_kindest 25 = .ok (.goto 8, 3) := by decide +kernel
theorem d_Li_kindest_28 : decode b_Li_kindest 28 = .ok (.iload_n 3, 1) := by decide +kernel
theorem d_Li_kindest_29 : decode b_Li_kindest 29 = .ok (.iconst 0, 1) := by decide +kernel
theorem d_Li_kindest_30 : decode b_Li_kindest 30 = .ok (.invokestatic 57, 3) := by decide +kernel
theorem d_Li_kindest_33 : decode b_Li_kindest 33 = .ok (.ireturn, 1) := by decide +kernel
abbrev b_Li_beginSums : ByteArray := prog_4_method_13_code
def y_Li_beginSums : MethodName := ⟨RLi, "beginSums", "(LOrderBounds$Columns;)V"⟩
theorem k_Li_beginSums : Cond.code y_Li_beginSums b_Li_beginSums 4 none ∈ tt := (tt2 111 rfl rfl)
theorem i_Li_beginSums : Cond.instanceMethod y_Li_beginSums ∈ tt := (tt2 109 rfl rfl)
theorem l_Li_beginSums : Cond.selects RLi y_Li_beginSums y_Li_beginSums ∈ tt := (tt2 110 rfl rfl)
theorem d_Li_beginSums_0 : decode b_Li_beginSums 0 = .ok (.aload_n 1, 1) := by decide +kernel
theorem d_Li_beginSums_1 : decode b_Li_beginSums 1 = .ok (.invokevirtual 33, 3) := by decide +kernel
theorem d_Li_beginSums_4 : decode b_Li_beginSums 4 = .ok (.istore_n 2, 1) := by decide +kernel
theorem d_Li_beginSums_5 : decode b_Li_beginSums 5 = .ok (.aload_n 0, 1) := by decide +kernel
theorem d_Li_beginSums_6 : decode b_Li_beginSums 6 = .ok (.getfield 28, 3) := by decide +kernel
theorem d_Li_beginSums_9 : decode b_Li_beginSums 9 = .ok (.iload_n 2, 1) := by decide +kernel
theorem d_Li_beginSums_10 : decode b_Li_beginSums 10 = .ok (.iconst 0, 1) := by decide +kernel
theorem d_Li_beginSums_11 : decode b_Li_beginSums 11 = .ok (.iastore, 1) := by decide +kernel
theorem d_Li_beginSums_12 : decode b_Li_beginSums 12 = .ok (.iload_n 2, 1) := by decide +kernel
theorem d_Li_beginSums_13 : decode b_Li_beginSums 13 = .ok (.iconst 1, 1) := by decide +kernel
theorem d_Li_beginSums_14 : decode b_Li_beginSums 14 = .ok (.isub, 1) := by decide +kernel
theorem d_Li_beginSums_15 : decode b_Li_beginSums 15 = .ok (.istore_n 3, 1) := by decide +kernel
theorem d_Li_beginSums_16 : decode b_Li_beginSums 16 = .ok (.iload_n 3, 1) := by decide +kernel
theorem d_Li_beginSums_17 : decode b_Li_beginSums 17 = .ok (.ifCond .lt 30, 3) := by decide +kernel
theorem d_Li_beginSums_20 : decode b_Li_beginSums 20 = .ok (.aload_n 0, 1) := by decide +kernel
theorem d_Li_beginSums_21 : decode b_Li_beginSums 21 = .ok (.getfield 28, 3) := by decide +kernel
theorem d_Li_beginSums_24 : decode b_Li_beginSums 24 = .ok (.iload_n 3, 1) := by decide +kernel
theorem d_Li_beginSums_25 : decode b_Li_beginSums 25 = .ok (.aload_n 0, 1) := by decide +kernel
theorem d_Li_beginSums_26 : decode b_Li_beginSums 26 = .ok (.getfield 28, 3) := by decide +kernel
theorem d_Li_beginSums_29 : decode b_Li_beginSums 29 = .ok (.iload_n 3, 1) := by decide +kernel
theorem d_Li_beginSums_30 : decode b_Li_beginSums 30 = .ok (.iconst 1, 1) := by decide +kernel
theorem d_Li_beginSums_31 : decode b_Li_beginSums 31 = .ok (.iadd, 1) := by decide +kernel
theorem d_Li_beginSums_32 : decode b_Li_beginSums 32 = .ok (.iaload, 1) := by decide +kernel
theorem d_Li_beginSums_33 : decode b_Li_beginSums 33 = .ok (.aload_n 0, 1) := by decide +kernel
theorem d_Li_beginSums_34 : decode b_Li_beginSums 34 = .ok (.aload_n 1, 1) := by decide +kernel
theorem d_Li_beginSums_35 : decode b_Li_beginSums 35 = .ok (.iload_n 3, 1) := by decide +kernel
theorem d_Li_beginSums_36 : decode b_Li_beginSums 36 = .ok (.invokevirtual 39, 3) := by decide +kernel
theorem d_Li_beginSums_39 : decode b_Li_beginSums 39 = .ok (.iadd, 1) := by decide +kernel
theorem d_Li_beginSums_40 : decode b_Li_beginSums 40 = .ok (.iastore, 1) := by decide +kernel
theorem d_Li_beginSums_41 : decode b_Li_beginSums 41 = .ok (.iinc 3 (-1), 3) := by decide +kernel
theorem d_Li_beginSums_44 : decode b_Li_beginSums 44 = .ok (.goto (-28), 3) := by decide +kernel
theorem d_Li_beginSums_47 : decode b_Li_beginSums 47 = .ok (.aload_n 0, 1) := by decide +kernel
theorem d_Li_beginSums_48 : decode b_Li_beginSums 48 = .ok (.getfield 25, 3) := by decide +kernel
theorem d_Li_beginSums_51 : decode b_Li_beginSums 51 = .ok (.iconst 0, 1) := by decide +kernel
theorem d_Li_beginSums_52 : decode b_Li_beginSums 52 = .ok (.iconst 0, 1) := by decide +kernel
theorem d_Li_beginSums_53 : decode b_Li_beginSums 53 = .ok (.iastore, 1) := by decide +kernel
theorem d_Li_beginSums_54 : decode b_Li_beginSums 54 = .ok (.return_, 1) := by decide +kernel
abbrev b_Li_stillHolds : ByteArray := prog_4_method_14_code
def y_Li_stillHolds : MethodName := ⟨RLi, "stillHolds", "(II)Z"⟩
theorem k_Li_stillHolds : Cond.code y_Li_stillHolds b_Li_stillHolds 4 (some .boolean) ∈ tt := (tt3 20 rfl rfl)
theorem i_Li_stillHolds : Cond.instanceMethod y_Li_stillHolds ∈ tt := (tt3 18 rfl rfl)
theorem l_Li_stillHolds : Cond.selects RLi y_Li_stillHolds y_Li_stillHolds ∈ tt := (tt3 19 rfl rfl)
theorem d_Li_stillHolds_0 : decode b_Li_stillHolds 0 = .ok (.aload_n 0, 1) := by decide +kernel
theorem d_Li_stillHolds_1 : decode b_Li_stillHolds 1 = .ok (.getfield 25, 3) := by decide +kernel
theorem d_Li_stillHolds_4 : decode b_Li_stillHolds 4 = .ok (.iload_n 1, 1) := by decide +kernel
theorem d_Li_stillHolds_5 : decode b_Li_stillHolds 5 = .ok (.iaload, 1) := by decide +kernel
theorem d_Li_stillHolds_6 : decode b_Li_stillHolds 6 = .ok (.aload_n 0, 1) := by decide +kernel
theorem d_Li_stillHolds_7 : decode b_Li_stillHolds 7 = .ok (.getfield 9, 3) := by decide +kernel
theorem d_Li_stillHolds_10 : decode b_Li_stillHolds 10 = .ok (.iload_n 1, 1) := by decide +kernel
theorem d_Li_stillHolds_11 : decode b_Li_stillHolds 11 = .ok (.iaload, 1) := by decide +kernel
theorem d_Li_stillHolds_12 : decode b_Li_stillHolds 12 = .ok (.iload_n 2, 1) := by decide +kernel
theorem d_Li_stillHolds_13 : decode b_Li_stillHolds 13 = .ok (.imul, 1) := by decide +kernel
theorem d_Li_stillHolds_14 : decode b_Li_stillHolds 14 = .ok (.iadd, 1) := by decide +kernel
theorem d_Li_stillHolds_15 : decode b_Li_stillHolds 15 = .ok (.istore_n 3, 1) := by decide +kernel
theorem d_Li_stillHolds_16 : decode b_Li_stillHolds 16 = .ok (.aload_n 0, 1) := by decide +kernel
theorem d_Li_stillHolds_17 : decode b_Li_stillHolds 17 = .ok (.getfield 25, 3) := by decide +kernel
theorem d_Li_stillHolds_20 : decode b_Li_stillHolds 20 = .ok (.iload_n 1, 1) := by decide +kernel
theorem d_Li_stillHolds_21 : decode b_Li_stillHolds 21 = .ok (.iconst 1, 1) := by decide +kernel
theorem d_Li_stillHolds_22 : decode b_Li_stillHolds 22 = .ok (.iadd, 1) := by decide +kernel
theorem d_Li_stillHolds_23 : decode b_Li_stillHolds 23 = .ok (.iload_n 3, 1) := by decide +kernel
theorem d_Li_stillHolds_24 : decode b_Li_stillHolds 24 = .ok (.iastore, 1) := by decide +kernel
theorem d_Li_stillHolds_25 : decode b_Li_stillHolds 25 = .ok (.aload_n 0, 1) := by decide +kernel
theorem d_Li_stillHolds_26 : decode b_Li_stillHolds 26 = .ok (.iload_n 3, 1) := by decide +kernel
theorem d_Li_stillHolds_27 : decode b_Li_stillHolds 27 = .ok (.aload_n 0, 1) := by decide +kernel
theorem d_Li_stillHolds_28 : decode b_Li_stillHolds 28 = .ok (.getfield 28, 3) := by decide +kernel
theorem d_Li_stillHolds_31 : decode b_Li_stillHolds 31 = .ok (.iload_n 1, 1) := by decide +kernel
theorem d_Li_stillHolds_32 : decode b_Li_stillHolds 32 = .ok (.iconst 1, 1) := by decide +kernel
theorem d_Li_stillHolds_33 : decode b_Li_stillHolds 33 = .ok (.iadd, 1) := by decide +kernel
theorem d_Li_stillHolds_34 : decode b_Li_stillHolds 34 = .ok (.iaload, 1) := by decide +kernel
theorem d_Li_stillHolds_35 : decode b_Li_stillHolds 35 = .ok (.iadd, 1) := by decide +kernel
theorem d_Li_stillHolds_36 : decode b_Li_stillHolds 36 = .ok (.invokevirtual 43, 3) := by decide +kernel
theorem d_Li_stillHolds_39 : decode b_Li_stillHolds 39 = .ok (.ireturn, 1) := by decide +kernel
abbrev b_Ls_init : ByteArray := prog_5_method_1_code
def y_Ls_init : MethodName := ⟨RLs, "<init>", "()V"⟩
theorem k_Ls_init : Cond.code y_Ls_init b_Ls_init 2 none ∈ tt := (tt1 46 rfl rfl)
theorem i_Ls_init : Cond.instanceMethod y_Ls_init ∈ tt := (tt1 45 rfl rfl)
theorem d_Ls_init_0 : decode b_Ls_init 0 = .ok (.aload_n 0, 1) := by decide +kernel
theorem d_Ls_init_1 : decode b_Ls_init 1 = .ok (.invokespecial 3, 3) := by decide +kernel
theorem d_Ls_init_4 : decode b_Ls_init 4 = .ok (.aload_n 0, 1) := by decide +kernel
theorem d_Ls_init_5 : decode b_Ls_init 5 = .ok (.iconst 4, 1) := by decide +kernel
theorem d_Ls_init_6 : decode b_Ls_init 6 = .ok (.anewarray 9, 3) := by decide +kernel
theorem d_Ls_init_9 : decode b_Ls_init 9 = .ok (.putfield 11, 3) := by decide +kernel
theorem d_Ls_init_12 : decode b_Ls_init 12 = .ok (.aload_n 0, 1) := by decide +kernel
theorem d_Ls_init_13 : decode b_Ls_init 13 = .ok (.iconst 4, 1) := by decide +kernel
theorem d_Ls_init_14 : decode b_Ls_init 14 = .ok (.anewarray 9, 3) := by decide +kernel
theorem d_Ls_init_17 : decode b_Ls_init 17 = .ok (.putfield 17, 3) := by decide +kernel
theorem d_Ls_init_20 : decode b_Ls_init 20 = .ok (.aload_n 0, 1) := by decide +kernel
theorem d_Ls_init_21 : decode b_Ls_init 21 = .ok (.iconst 0, 1) := by decide +kernel
theorem d_Ls_init_22 : decode b_Ls_init 22 = .ok (.putfield 20, 3) := by decide +kernel
theorem d_Ls_init_25 : decode b_Ls_init 25 = .ok (.aload_n 0, 1) := by decide +kernel
theorem d_Ls_init_26 : decode b_Ls_init 26 = .ok (.iconst 0, 1) := by decide +kernel
theorem d_Ls_init_27 : decode b_Ls_init 27 = .ok (.putfield 24, 3) := by decide +kernel
theorem d_Ls_init_30 : decode b_Ls_init 30 = .ok (.iconst 0, 1) := by decide +kernel
theorem d_Ls_init_31 : decode b_Ls_init 31 = .ok (.istore_n 1, 1) := by decide +kernel
theorem d_Ls_init_32 : decode b_Ls_init 32 = .ok (.iload_n 1, 1) := by decide +kernel
theorem d_Ls_init_33 : decode b_Ls_init 33 = .ok (.iconst 4, 1) := by decide +kernel
theorem d_Ls_init_34 : decode b_Ls_init 34 = .ok (.if_icmp .ge 22, 3) := by decide +kernel
theorem d_Ls_init_37 : decode b_Ls_init 37 = .ok (.aload_n 0, 1) := by decide +kernel
theorem d_Ls_init_38 : decode b_Ls_init 38 = .ok (.getfield 11, 3) := by decide +kernel
theorem d_Ls_init_41 : decode b_Ls_init 41 = .ok (.iload_n 1, 1) := by decide +kernel
theorem d_Ls_init_42 : decode b_Ls_init 42 = .ok (.new 9, 3) := by decide +kernel
theorem d_Ls_init_45 : decode b_Ls_init 45 = .ok (.dup, 1) := by decide +kernel
theorem d_Ls_init_46 : decode b_Ls_init 46 = .ok (.invokespecial 27, 3) := by decide +kernel
theorem d_Ls_init_49 : decode b_Ls_init 49 = .ok (.aastore, 1) := by decide +kernel
theorem d_Ls_init_50 : decode b_Ls_init 50 = .ok (.iinc 1 1, 3) := by decide +kernel
theorem d_Ls_init_53 : decode b_Ls_init 53 = .ok (.goto (-21), 3) := by decide +kernel
theorem d_Ls_init_56 : decode b_Ls_init 56 = .ok (.iconst 0, 1) := by decide +kernel
theorem d_Ls_init_57 : decode b_Ls_init 57 = .ok (.istore_n 1, 1) := by decide +kernel
theorem d_Ls_init_58 : decode b_Ls_init 58 = .ok (.iload_n 1, 1) := by decide +kernel
theorem d_Ls_init_59 : decode b_Ls_init 59 = .ok (.iconst 4, 1) := by decide +kernel
theorem d_Ls_init_60 : decode b_Ls_init 60 = .ok (.if_icmp .ge 22, 3) := by decide +kernel
theorem d_Ls_init_63 : decode b_Ls_init 63 = .ok (.aload_n 0, 1) := by decide +kernel
theorem d_Ls_init_64 : decode b_Ls_init 64 = .ok (.getfield 17, 3) := by decide +kernel
theorem d_Ls_init_67 : decode b_Ls_init 67 = .ok (.iload_n 1, 1) := by decide +kernel
theorem d_Ls_init_68 : decode b_Ls_init 68 = .ok (.new 9, 3) := by decide +kernel
theorem d_Ls_init_71 : decode b_Ls_init 71 = .ok (.dup, 1) := by decide +kernel
theorem d_Ls_init_72 : decode b_Ls_init 72 = .ok (.invokespecial 27, 3) := by decide +kernel
theorem d_Ls_init_75 : decode b_Ls_init 75 = .ok (.aastore, 1) := by decide +kernel
theorem d_Ls_init_76 : decode b_Ls_init 76 = .ok (.iinc 1 1, 3) := by decide +kernel
theorem d_Ls_init_79 : decode b_Ls_init 79 = .ok (.goto (-21), 3) := by decide +kernel
theorem d_Ls_init_82 : decode b_Ls_init 82 = .ok (.return_, 1) := by decide +kernel
abbrev b_Ls_rowCount : ByteArray := prog_5_method_2_code
def y_Ls_rowCount : MethodName := ⟨RLs, "rowCount", "()I"⟩
theorem k_Ls_rowCount : Cond.code y_Ls_rowCount b_Ls_rowCount 1 (some .int) ∈ tt := (tt2 127 rfl rfl)
theorem i_Ls_rowCount : Cond.instanceMethod y_Ls_rowCount ∈ tt := (tt2 125 rfl rfl)
theorem l_Ls_rowCount : Cond.selects RLs y_Ls_rowCount y_Ls_rowCount ∈ tt := (tt2 126 rfl rfl)
theorem d_Ls_rowCount_0 : decode b_Ls_rowCount 0 = .ok (.aload_n 0, 1) := by decide +kernel
theorem d_Ls_rowCount_1 : decode b_Ls_rowCount 1 = .ok (.getfield 20, 3) := by decide +kernel
theorem d_Ls_rowCount_4 : decode b_Ls_rowCount 4 = .ok (.ireturn, 1) := by decide +kernel
abbrev b_Ls_cutCount : ByteArray := prog_5_method_3_code
def y_Ls_cutCount : MethodName := ⟨RLs, "cutCount", "()I"⟩
theorem k_Ls_cutCount : Cond.code y_Ls_cutCount b_Ls_cutCount 1 (some .int) ∈ tt := (tt2 210 rfl rfl)
theorem i_Ls_cutCount : Cond.instanceMethod y_Ls_cutCount ∈ tt := (tt2 208 rfl rfl)
theorem l_Ls_cutCount : Cond.selects RLs y_Ls_cutCount y_Ls_cutCount ∈ tt := (tt2 209 rfl rfl)
theorem d_Ls_cutCount_0 : decode b_Ls_cutCount 0 = .ok (.aload_n 0, 1) := by decide +kernel
theorem d_Ls_cutCount_1 : decode b_Ls_cutCount 1 = .ok (.getfield 24, 3) := by decide +kernel
theorem d_Ls_cutCount_4 : decode b_Ls_cutCount 4 = .ok (.ireturn, 1) := by decide +kernel
abbrev b_Ls_count : ByteArray := prog_5_method_4_code
def y_Ls_count : MethodName := ⟨RLs, "count", "()I"⟩
theorem k_Ls_count : Cond.code y_Ls_count b_Ls_count 1 (some .int) ∈ tt := (tt1 161 rfl rfl)
theorem i_Ls_count : Cond.instanceMethod y_Ls_count ∈ tt := (tt1 159 rfl rfl)
theorem l_Ls_count : Cond.selects RLs y_Ls_count y_Ls_count ∈ tt := (tt1 160 rfl rfl)
theorem d_Ls_count_0 : decode b_Ls_count 0 = .ok (.aload_n 0, 1) := by decide +kernel
theorem d_Ls_count_1 : decode b_Ls_count 1 = .ok (.getfield 20, 3) := by decide +kernel
theorem d_Ls_count_4 : decode b_Ls_count 4 = .ok (.aload_n 0, 1) := by decide +kernel
theorem d_Ls_count_5 : decode b_Ls_count 5 = .ok (.getfield 24, 3) := by decide +kernel
theorem d_Ls_count_8 : decode b_Ls_count 8 = .ok (.iadd, 1) := by decide +kernel
theorem d_Ls_count_9 : decode b_Ls_count 9 = .ok (.ireturn, 1) := by decide +kernel
abbrev b_Ls_at : ByteArray := prog_5_method_5_code
def y_Ls_at : MethodName := ⟨RLs, "at", "(I)LOrderBounds$Line;"⟩
theorem k_Ls_at : Cond.code y_Ls_at b_Ls_at 2 (some (.object "OrderBounds$Line")) ∈ tt := (tt1 165 rfl rfl)
theorem i_Ls_at : Cond.instanceMethod y_Ls_at ∈ tt := (tt1 163 rfl rfl)
theorem l_Ls_at : Cond.selects RLs y_Ls_at y_Ls_at ∈ tt := (tt1 164 rfl rfl)
theorem d_Ls_at_0 : decode b_Ls_at 0 = .ok (.iload_n 1, 1) := by decide +kernel
theorem d_Ls_at_1 : decode b_Ls_at 1 = .ok (.aload_n 0, 1) := by decide +kernel
theorem d_Ls_at_2 : decode b_Ls_at 2 = .ok (.getfield 20, 3) := by decide +kernel
theorem d_Ls_at_5 : decode b_Ls_at 5 = .ok (.if_icmp .ge 12, 3) := by decide +kernel
theorem d_Ls_at_8 : decode b_Ls_at 8 = .ok (.aload_n 0, 1) := by decide +kernel
theorem d_Ls_at_9 : decode b_Ls_at 9 = .ok (.getfield 11, 3) := by decide +kernel
theorem d_Ls_at_12 : decode b_Ls_at 12 = .ok (.iload_n 1, 1) := by decide +kernel
theorem d_Ls_at_13 : decode b_Ls_at 13 = .ok (.aaload, 1) := by decide +kernel
theorem d_Ls_at_14 : decode b_Ls_at 14 = .ok (.goto 14, 3) := by decide +kernel
theorem d_Ls_at_17 : decode b_Ls_at 17 = .ok (.aload_n 0, 1) := by decide +kernel
theorem d_Ls_at_18 : decode b_Ls_at 18 = .ok (.getfield 17, 3) := by decide +kernel
theorem d_Ls_at_21 : decode b_Ls_at 21 = .ok (.iload_n 1, 1) := by decide +kernel
theorem d_Ls_at_22 : decode b_Ls_at 22 = .ok (.aload_n 0, 1) := by decide +kernel
theorem d_Ls_at_23 : decode b_Ls_at 23 = .ok (.getfield 20, 3) := by decide +kernel
theorem d_Ls_at_26 : decode b_Ls_at 26 = .ok (.isub, 1) := by decide +kernel
theorem d_Ls_at_27 : decode b_Ls_at 27 = .ok (.aaload, 1) := by decide +kernel
theorem d_Ls_at_28 : decode b_Ls_at 28 = .ok (.areturn, 1) := by decide +kernel
abbrev b_Ls_addRow : ByteArray := prog_5_method_6_code
def y_Ls_addRow : MethodName := ⟨RLs, "addRow", "(II)I"⟩
theorem k_Ls_addRow : Cond.code y_Ls_addRow b_Ls_addRow 4 (some .int) ∈ tt := (tt2 132 rfl rfl)
theorem i_Ls_addRow : Cond.instanceMethod y_Ls_addRow ∈ tt := (tt2 130 rfl rfl)
theorem l_Ls_addRow : Cond.selects RLs y_Ls_addRow y_Ls_addRow ∈ tt := (tt2 131 rfl rfl)
theorem d_Ls_addRow_0 : decode b_Ls_addRow 0 = .ok (.aload_n 0, 1) := by decide +kernel
theorem d_Ls_addRow_1 : decode b_Ls_addRow 1 = .ok (.getfield 11, 3) := by decide +kernel
theorem d_Ls_addRow_4 : decode b_Ls_addRow 4 = .ok (.aload_n 0, 1) := by decide +kernel
theorem d_Ls_addRow_5 : decode b_Ls_addRow 5 = .ok (.getfield 20, 3) := by decide +kernel
theorem d_Ls_addRow_8 : decode b_Ls_addRow 8 = .ok (.aaload, 1) := by decide +kernel
theorem d_Ls_addRow_9 : decode b_Ls_addRow 9 = .ok (.astore_n 3, 1) := by decide +kernel
theorem d_Ls_addRow_10 : decode b_Ls_addRow 10 = .ok (.aload_n 3, 1) := by decide +kernel
theorem d_Ls_addRow_11 : decode b_Ls_addRow 11 = .ok (.iload_n 1, 1) := by decide +kernel
theorem d_Ls_addRow_12 : decode b_Ls_addRow 12 = .ok (.invokevirtual 28, 3) := by decide +kernel
theorem d_Ls_addRow_15 : decode b_Ls_addRow 15 = .ok (.aload_n 3, 1) := by decide +kernel
theorem d_Ls_addRow_16 : decode b_Ls_addRow 16 = .ok (.iload_n 2, 1) := by decide +kernel
theorem d_Ls_addRow_17 : decode b_Ls_addRow 17 = .ok (.invokevirtual 32, 3) := by decide +kernel
theorem d_Ls_addRow_20 : decode b_Ls_addRow 20 = .ok (.aload_n 0, 1) := by decide +kernel
theorem d_Ls_addRow_21 : decode b_Ls_addRow 21 = .ok (.dup, 1) := by decide +kernel
theorem d_Ls_addRow_22 : decode b_Ls_addRow 22 = .ok (.getfield 20, 3) := by decide +kernel
theorem d_Ls_addRow_25 : decode b_Ls_addRow 25 = .ok (.iconst 1, 1) := by decide +kernel
theorem d_Ls_addRow_26 : decode b_Ls_addRow 26 = .ok (.iadd, 1) := by decide +kernel
theorem d_Ls_addRow_27 : decode b_Ls_addRow 27 = .ok (.putfield 20, 3) := by decide +kernel
theorem d_Ls_addRow_30 : decode b_Ls_addRow 30 = .ok (.aload_n 0, 1) := by decide +kernel
theorem d_Ls_addRow_31 : decode b_Ls_addRow 31 = .ok (.invokevirtual 35, 3) := by decide +kernel
theorem d_Ls_addRow_34 : decode b_Ls_addRow 34 = .ok (.aload_n 0, 1) := by decide +kernel
theorem d_Ls_addRow_35 : decode b_Ls_addRow 35 = .ok (.getfield 20, 3) := by decide +kernel
theorem d_Ls_addRow_38 : decode b_Ls_addRow 38 = .ok (.iconst 1, 1) := by decide +kernel
theorem d_Ls_addRow_39 : decode b_Ls_addRow 39 = .ok (.isub, 1) := by decide +kernel
theorem d_Ls_addRow_40 : decode b_Ls_addRow 40 = .ok (.ireturn, 1) := by decide +kernel
abbrev b_Ls_addCut : ByteArray := prog_5_method_7_code
def y_Ls_addCut : MethodName := ⟨RLs, "addCut", "(III)I"⟩
theorem k_Ls_addCut : Cond.code y_Ls_addCut b_Ls_addCut 5 (some .int) ∈ tt := (tt2 221 rfl rfl)
theorem i_Ls_addCut : Cond.instanceMethod y_Ls_addCut ∈ tt := (tt2 219 rfl rfl)
theorem l_Ls_addCut : Cond.selects RLs y_Ls_addCut y_Ls_addCut ∈ tt := (tt2 220 rfl rfl)
theorem d_Ls_addCut_0 : decode b_Ls_addCut 0 = .ok (.aload_n 0, 1) := by decide +kernel
theorem d_Ls_addCut_1 : decode b_Ls_addCut 1 = .ok (.getfield 17, 3) := by decide +kernel
theorem d_Ls_addCut_4 : decode b_Ls_addCut 4 = .ok (.aload_n 0, 1) := by decide +kernel
theorem d_Ls_addCut_5 : decode b_Ls_addCut 5 = .ok (.getfield 24, 3) := by decide +kernel
theorem d_Ls_addCut_8 : decode b_Ls_addCut 8 = .ok (.aaload, 1) := by decide +kernel
theorem d_Ls_addCut_9 : decode b_Ls_addCut 9 = .ok (.astore 4, 2) := by decide +kernel
theorem d_Ls_addCut_11 : decode b_Ls_addCut 11 = .ok (.aload 4, 2) := by decide +kernel
theorem d_Ls_addCut_13 : decode b_Ls_addCut 13 = .ok (.iload_n 3, 1) := by decide +kernel
theorem d_Ls_addCut_14 : decode b_Ls_addCut 14 = .ok (.invokevirtual 32, 3) := by decide +kernel
theorem d_Ls_addCut_17 : decode b_Ls_addCut 17 = .ok (.aload 4, 2) := by decide +kernel
theorem d_Ls_addCut_19 : decode b_Ls_addCut 19 = .ok (.iload_n 1, 1) := by decide +kernel
theorem d_Ls_addCut_20 : decode b_Ls_addCut 20 = .ok (.iconst 1, 1) := by decide +kernel
theorem d_Ls_addCut_21 : decode b_Ls_addCut 21 = .ok (.invokevirtual 38, 3) := by decide +kernel
theorem d_Ls_addCut_24 : decode b_Ls_addCut 24 = .ok (.aload 4, 2) := by decide +kernel
theorem d_Ls_addCut_26 : decode b_Ls_addCut 26 = .ok (.iload_n 2, 1) := by decide +kernel
theorem d_Ls_addCut_27 : decode b_Ls_addCut 27 = .ok (.iconst 1, 1) := by decide +kernel
theorem d_Ls_addCut_28 : decode b_Ls_addCut 28 = .ok (.invokevirtual 38, 3) := by decide +kernel
theorem d_Ls_addCut_31 : decode b_Ls_addCut 31 = .ok (.aload_n 0, 1) := by decide +kernel
theorem d_Ls_addCut_32 : decode b_Ls_addCut 32 = .ok (.dup, 1) := by decide +kernel
theorem d_Ls_addCut_33 : decode b_Ls_addCut 33 = .ok (.getfield 24, 3) := by decide +kernel
theorem d_Ls_addCut_36 : decode b_Ls_addCut 36 = .ok (.iconst 1, 1) := by decide +kernel
theorem d_Ls_addCut_37 : decode b_Ls_addCut 37 = .ok (.iadd, 1) := by decide +kernel
theorem d_Ls_addCut_38 : decode b_Ls_addCut 38 = .ok (.putfield 24, 3) := by decide +kernel
theorem d_Ls_addCut_41 : decode b_Ls_addCut 41 = .ok (.aload_n 0, 1) := by decide +kernel
theorem d_Ls_addCut_42 : decode b_Ls_addCut 42 = .ok (.invokevirtual 35, 3) := by decide +kernel
theorem d_Ls_addCut_45 : decode b_Ls_addCut 45 = .ok (.aload_n 0, 1) := by decide +kernel
theorem d_Ls_addCut_46 : decode b_Ls_addCut 46 = .ok (.getfield 24, 3) := by decide +kernel
theorem d_Ls_addCut_49 : decode b_Ls_addCut 49 = .ok (.ireturn, 1) := by decide +kernel
abbrev b_Ls_hasCut : ByteArray := prog_5_method_8_code
def y_Ls_hasCut : MethodName := ⟨RLs, "hasCut", "(II)Z"⟩
theorem k_Ls_hasCut : Cond.code y_Ls_hasCut b_Ls_hasCut 4 (some .boolean) ∈ tt := (tt2 215 rfl rfl)
theorem i_Ls_hasCut : Cond.instanceMethod y_Ls_hasCut ∈ tt := (tt2 213 rfl rfl)
theorem l_Ls_hasCut : Cond.selects RLs y_Ls_hasCut y_Ls_hasCut ∈ tt := (tt2 214 rfl rfl)
theorem d_Ls_hasCut_0 : decode b_Ls_hasCut 0 = .ok (.iconst 0, 1) := by decide +kernel
theorem d_Ls_hasCut_1 : decode b_Ls_hasCut 1 = .ok (.istore_n 3, 1) := by decide +kernel
theorem d_Ls_hasCut_2 : decode b_Ls_hasCut 2 = .ok (.iload_n 3, 1) := by decide +kernel
theorem d_Ls_hasCut_3 : decode b_Ls_hasCut 3 = .ok (.aload_n 0, 1) := by decide +kernel
theorem d_Ls_hasCut_4 : decode b_Ls_hasCut 4 = .ok (.getfield 24, 3) := by decide +kernel
theorem d_Ls_hasCut_7 : decode b_Ls_hasCut 7 = .ok (.if_icmp .ge 39, 3) := by decide +kernel
theorem d_Ls_hasCut_10 : decode b_Ls_hasCut 10 = .ok (.aload_n 0, 1) := by decide +kernel
theorem d_Ls_hasCut_11 : decode b_Ls_hasCut 11 = .ok (.getfield 17, 3) := by decide +kernel
theorem d_Ls_hasCut_14 : decode b_Ls_hasCut 14 = .ok (.iload_n 3, 1) := by decide +kernel
theorem d_Ls_hasCut_15 : decode b_Ls_hasCut 15 = .ok (.aaload, 1) := by decide +kernel
theorem d_Ls_hasCut_16 : decode b_Ls_hasCut 16 = .ok (.iload_n 1, 1) := by decide +kernel
theorem d_Ls_hasCut_17 : decode b_Ls_hasCut 17 = .ok (.invokevirtual 42, 3) := by decide +kernel
theorem d_Ls_hasCut_20 : decode b_Ls_hasCut 20 = .ok (.iconst 1, 1) := by decide +kernel
theorem d_Ls_hasCut_21 : decode b_Ls_hasCut 21 = .ok (.if_icmp .ne 19, 3) := by decide +kernel
theorem d_Ls_hasCut_24 : decode b_Ls_hasCut 24 = .ok (.aload_n 0, 1) := by decide +kernel
theorem d_Ls_hasCut_25 : decode b_Ls_hasCut 25 = .ok (.getfield 17, 3) := by decide +kernel
theorem d_Ls_hasCut_28 : decode b_Ls_hasCut 28 = .ok (.iload_n 3, 1) := by decide +kernel
theorem d_Ls_hasCut_29 : decode b_Ls_hasCut 29 = .ok (.aaload, 1) := by decide +kernel
theorem d_Ls_hasCut_30 : decode b_Ls_hasCut 30 = .ok (.iload_n 2, 1) := by decide +kernel
theorem d_Ls_hasCut_31 : decode b_Ls_hasCut 31 = .ok (.invokevirtual 42, 3) := by decide +kernel
theorem d_Ls_hasCut_34 : decode b_Ls_hasCut 34 = .ok (.iconst 1, 1) := by decide +kernel
theorem d_Ls_hasCut_35 : decode b_Ls_hasCut 35 = .ok (.if_icmp .ne 5, 3) := by decide +kernel
theorem d_Ls_hasCut_38 : decode b_Ls_hasCut 38 = .ok (.iconst 1, 1) := by decide +kernel
theorem d_Ls_hasCut_39 : decode b_Ls_hasCut 39 = .ok (.ireturn, 1) := by decide +kernel
theorem d_Ls_hasCut_40 : decode b_Ls_hasCut 40 = .ok (.iinc 3 1, 3) := by decide +kernel
theorem d_Ls_hasCut_43 : decode b_Ls_hasCut 43 = .ok (.goto (-41), 3) := by decide +kernel
theorem d_Ls_hasCut_46 : decode b_Ls_hasCut 46 = .ok (.iconst 0, 1) := by decide +kernel
theorem d_Ls_hasCut_47 : decode b_Ls_hasCut 47 = .ok (.ireturn, 1) := by decide +kernel
abbrev b_Ls_clearWeights : ByteArray := prog_5_method_9_code
def y_Ls_clearWeights : MethodName := ⟨RLs, "clearWeights", "()V"⟩
theorem k_Ls_clearWeights : Cond.code y_Ls_clearWeights b_Ls_clearWeights 2 none ∈ tt := (tt2 144 rfl rfl)
theorem i_Ls_clearWeights : Cond.instanceMethod y_Ls_clearWeights ∈ tt := (tt2 143 rfl rfl)
theorem l_Ls_clearWeights : Cond.selects RLs y_Ls_clearWeights y_Ls_clearWeights ∈ tt := (tt0 3 rfl rfl)
theorem d_Ls_clearWeights_0 : decode b_Ls_clearWeights 0 = .ok (.iconst 0, 1) := by decide +kernel
theorem d_Ls_clearWeights_1 : decode b_Ls_clearWeights 1 = .ok (.istore_n 1, 1) := by decide +kernel
theorem d_Ls_clearWeights_2 : decode b_Ls_clearWeights 2 = .ok (.iload_n 1, 1) := by decide +kernel
theorem d_Ls_clearWeights_3 : decode b_Ls_clearWeights 3 = .ok (.aload_n 0, 1) := by decide +kernel
theorem d_Ls_clearWeights_4 : decode b_Ls_clearWeights 4 = .ok (.invokevirtual 46, 3) := by decide +kernel
theorem d_Ls_clearWeights_7 : decode b_Ls_clearWeights 7 = .ok (.if_icmp .ge 18, 3) := by decide +kernel
theorem d_Ls_clearWeights_10 : decode b_Ls_clearWeights 10 = .ok (.aload_n 0, 1) := by decide +kernel
theorem d_Ls_clearWeights_11 : decode b_Ls_clearWeights 11 = .ok (.iload_n 1, 1) := by decide +kernel
theorem d_Ls_clearWeights_12 : decode b_Ls_clearWeights 12 = .ok (.invokevirtual 50, 3) := by decide +kernel
theorem d_Ls_clearWeights_15 : decode b_Ls_clearWeights 15 = .ok (.iconst 0, 1) := by decide +kernel
theorem d_Ls_clearWeights_16 : decode b_Ls_clearWeights 16 = .ok (.invokevirtual 54, 3) := by decide +kernel
theorem d_Ls_clearWeights_19 : decode b_Ls_clearWeights 19 = .ok (.iinc 1 1, 3) := by decide +kernel
theorem d_Ls_clearWeights_22 : decode b_Ls_clearWeights 22 = .ok (.goto (-20), 3) := by decide +kernel
theorem d_Ls_clearWeights_25 : decode b_Ls_clearWeights 25 = .ok (.return_, 1) := by decide +kernel
abbrev b_Ls_weightedRights : ByteArray := prog_5_method_10_code
def y_Ls_weightedRights : MethodName := ⟨RLs, "weightedRights", "()J"⟩
theorem k_Ls_weightedRights : Cond.code y_Ls_weightedRights b_Ls_weightedRights 4 (some .long) ∈ tt := (tt1 157 rfl rfl)
theorem i_Ls_weightedRights : Cond.instanceMethod y_Ls_weightedRights ∈ tt := (tt1 155 rfl rfl)
theorem l_Ls_weightedRights : Cond.selects RLs y_Ls_weightedRights y_Ls_weightedRights ∈ tt := (tt1 156 rfl rfl)
theorem d_Ls_weightedRights_0 : decode b_Ls_weightedRights 0 = .ok (.lconst 0, 1) := by decide +kernel
theorem d_Ls_weightedRights_1 : decode b_Ls_weightedRights 1 = .ok (.lstore_n 1, 1) := by decide +kernel
theorem d_Ls_weightedRights_2 : decode b_Ls_weightedRights 2 = .ok (.iconst 0, 1) := by decide +kernel
theorem d_Ls_weightedRights_3 : decode b_Ls_weightedRights 3 = .ok (.istore_n 3, 1) := by decide +kernel
theorem d_Ls_weightedRights_4 : decode b_Ls_weightedRights 4 = .ok (.iload_n 3, 1) := by decide +kernel
theorem d_Ls_weightedRights_5 : decode b_Ls_weightedRights 5 = .ok (.aload_n 0, 1) := by decide +kernel
theorem d_Ls_weightedRights_6 : decode b_Ls_weightedRights 6 = .ok (.invokevirtual 46, 3) := by decide +kernel
theorem d_Ls_weightedRights_9 : decode b_Ls_weightedRights 9 = .ok (.if_icmp .ge 31, 3) := by decide +kernel
theorem d_Ls_weightedRights_12 : decode b_Ls_weightedRights 12 = .ok (.lload_n 1, 1) := by decide +kernel
theorem d_Ls_weightedRights_13 : decode b_Ls_weightedRights 13 = .ok (.aload_n 0, 1) := by decide +kernel
theorem d_Ls_weightedRights_14 : decode b_Ls_weightedRights 14 = .ok (.iload_n 3, 1) := by decide +kernel
theorem d_Ls_weightedRights_15 : decode b_Ls_weightedRights 15 = .ok (.invokevirtual 50, 3) := by decide +kernel
theorem d_Ls_weightedRights_18 : decode b_Ls_weightedRights 18 = .ok (.invokevirtual 57, 3) := by decide +kernel
theorem d_Ls_weightedRights_21 : decode b_Ls_weightedRights 21 = .ok (.i2l, 1) := by decide +kernel
theorem d_Ls_weightedRights_22 : decode b_Ls_weightedRights 22 = .ok (.aload_n 0, 1) := by decide +kernel
theorem d_Ls_weightedRights_23 : decode b_Ls_weightedRights 23 = .ok (.iload_n 3, 1) := by decide +kernel
theorem d_Ls_weightedRights_24 : decode b_Ls_weightedRights 24 = .ok (.invokevirtual 50, 3) := by decide +kernel
theorem d_Ls_weightedRights_27 : decode b_Ls_weightedRights 27 = .ok (.invokevirtual 60, 3) := by decide +kernel
theorem d_Ls_weightedRights_30 : decode b_Ls_weightedRights 30 = .ok (.i2l, 1) := by decide +kernel
theorem d_Ls_weightedRights_31 : decode b_Ls_weightedRights 31 = .ok (.lmul, 1) := by decide +kernel
theorem d_Ls_weightedRights_32 : decode b_Ls_weightedRights 32 = .ok (.ladd, 1) := by decide +kernel
theorem d_Ls_weightedRights_33 : decode b_Ls_weightedRights 33 = .ok (.lstore_n 1, 1) := by decide +kernel
theorem d_Ls_weightedRights_34 : decode b_Ls_weightedRights 34 = .ok (.iinc 3 1, 3) := by decide +kernel
theorem d_Ls_weightedRights_37 : decode b_Ls_weightedRights 37 = .ok (.goto (-33), 3) := by decide +kernel
theorem d_Ls_weightedRights_40 : decode b_Ls_weightedRights 40 = .ok (.lload_n 1, 1) := by decide +kernel
theorem d_Ls_weightedRights_41 : decode b_Ls_weightedRights 41 = .ok (.lreturn, 1) := by decide +kernel
abbrev b_Ls_weightedFactors : ByteArray := prog_5_method_11_code
def y_Ls_weightedFactors : MethodName := ⟨RLs, "weightedFactors", "(I)J"⟩
theorem k_Ls_weightedFactors : Cond.code y_Ls_weightedFactors b_Ls_weightedFactors 5 (some .long) ∈ tt := (tt1 186 rfl rfl)
theorem i_Ls_weightedFactors : Cond.instanceMethod y_Ls_weightedFactors ∈ tt := (tt1 184 rfl rfl)
theorem l_Ls_weightedFactors : Cond.selects RLs y_Ls_weightedFactors y_Ls_weightedFactors ∈ tt := (tt1 185 rfl rfl)
theorem d_Ls_weightedFactors_0 : decode b_Ls_weightedFactors 0 = .ok (.lconst 0, 1) := by decide +kernel
theorem d_Ls_weightedFactors_1 : decode b_Ls_weightedFactors 1 = .ok (.lstore_n 2, 1) := by decide +kernel
theorem d_Ls_weightedFactors_2 : decode b_Ls_weightedFactors 2 = .ok (.iconst 0, 1) := by decide +kernel
theorem d_Ls_weightedFactors_3 : decode b_Ls_weightedFactors 3 = .ok (.istore 4, 2) := by decide +kernel
theorem d_Ls_weightedFactors_5 : decode b_Ls_weightedFactors 5 = .ok (.iload 4, 2) := by decide +kernel
theorem d_Ls_weightedFactors_7 : decode b_Ls_weightedFactors 7 = .ok (.aload_n 0, 1) := by decide +kernel
theorem d_Ls_weightedFactors_8 : decode b_Ls_weightedFactors 8 = .ok (.invokevirtual 46, 3) := by decide +kernel
theorem d_Ls_weightedFactors_11 : decode b_Ls_weightedFactors 11 = .ok (.if_icmp .ge 34, 3) := by decide +kernel
theorem d_Ls_weightedFactors_14 : decode b_Ls_weightedFactors 14 = .ok (.lload_n 2, 1) := by decide +kernel
theorem d_Ls_weightedFactors_15 : decode b_Ls_weightedFactors 15 = .ok (.aload_n 0, 1) := by decide +kernel
theorem d_Ls_weightedFactors_16 : decode b_Ls_weightedFactors 16 = .ok (.iload 4, 2) := by decide +kernel
theorem d_Ls_weightedFactors_18 : decode b_Ls_weightedFactors 18 = .ok (.invokevirtual 50, 3) := by decide +kernel
theorem d_Ls_weightedFactors_21 : decode b_Ls_weightedFactors 21 = .ok (.invokevirtual 57, 3) := by decide +kernel
theorem d_Ls_weightedFactors_24 : decode b_Ls_weightedFactors 24 = .ok (.i2l, 1) := by decide +kernel
theorem d_Ls_weightedFactors_25 : decode b_Ls_weightedFactors 25 = .ok (.aload_n 0, 1) := by decide +kernel
theorem d_Ls_weightedFactors_26 : decode b_Ls_weightedFactors 26 = .ok (.iload 4, 2) := by decide +kernel
theorem d_Ls_weightedFactors_28 : decode b_Ls_weightedFactors 28 = .ok (.invokevirtual 50, 3) := by decide +kernel
theorem d_Ls_weightedFactors_31 : decode b_Ls_weightedFactors 31 = .ok (.iload_n 1, 1) := by decide +kernel
theorem d_Ls_weightedFactors_32 : decode b_Ls_weightedFactors 32 = .ok (.invokevirtual 42, 3) := by decide +kernel
theorem d_Ls_weightedFactors_35 : decode b_Ls_weightedFactors 35 = .ok (.i2l, 1) := by decide +kernel
theorem d_Ls_weightedFactors_36 : decode b_Ls_weightedFactors 36 = .ok (.lmul, 1) := by decide +kernel
theorem d_Ls_weightedFactors_37 : decode b_Ls_weightedFactors 37 = .ok (.ladd, 1) := by decide +kernel
theorem d_Ls_weightedFactors_38 : decode b_Ls_weightedFactors 38 = .ok (.lstore_n 2, 1) := by decide +kernel
theorem d_Ls_weightedFactors_39 : decode b_Ls_weightedFactors 39 = .ok (.iinc 4 1, 3) := by decide +kernel
theorem d_Ls_weightedFactors_42 : decode b_Ls_weightedFactors 42 = .ok (.goto (-37), 3) := by decide +kernel
theorem d_Ls_weightedFactors_45 : decode b_Ls_weightedFactors 45 = .ok (.lload_n 2, 1) := by decide +kernel
theorem d_Ls_weightedFactors_46 : decode b_Ls_weightedFactors 46 = .ok (.lreturn, 1) := by decide +kernel
abbrev b_Ls_beginSums : ByteArray := prog_5_method_12_code
def y_Ls_beginSums : MethodName := ⟨RLs, "beginSums", "(LOrderBounds$Columns;)V"⟩
theorem k_Ls_beginSums : Cond.code y_Ls_beginSums b_Ls_beginSums 3 none ∈ tt := (tt2 107 rfl rfl)
theorem i_Ls_beginSums : Cond.instanceMethod y_Ls_beginSums ∈ tt := (tt2 105 rfl rfl)
theorem l_Ls_beginSums : Cond.selects RLs y_Ls_beginSums y_Ls_beginSums ∈ tt := (tt2 106 rfl rfl)
theorem d_Ls_beginSums_0 : decode b_Ls_beginSums 0 = .ok (.iconst 0, 1) := by decide +kernel
theorem d_Ls_beginSums_1 : decode b_Ls_beginSums 1 = .ok (.istore_n 2, 1) := by decide +kernel
theorem d_Ls_beginSums_2 : decode b_Ls_beginSums 2 = .ok (.iload_n 2, 1) := by decide +kernel
theorem d_Ls_beginSums_3 : decode b_Ls_beginSums 3 = .ok (.aload_n 0, 1) := by decide +kernel
theorem d_Ls_beginSums_4 : decode b_Ls_beginSums 4 = .ok (.invokevirtual 46, 3) := by decide +kernel
theorem d_Ls_beginSums_7 : decode b_Ls_beginSums 7 = .ok (.if_icmp .ge 18, 3) := by decide +kernel
theorem d_Ls_beginSums_10 : decode b_Ls_beginSums 10 = .ok (.aload_n 0, 1) := by decide +kernel
theorem d_Ls_beginSums_11 : decode b_Ls_beginSums 11 = .ok (.iload_n 2, 1) := by decide +kernel
theorem d_Ls_beginSums_12 : decode b_Ls_beginSums 12 = .ok (.invokevirtual 50, 3) := by decide +kernel
theorem d_Ls_beginSums_15 : decode b_Ls_beginSums 15 = .ok (.aload_n 1, 1) := by decide +kernel
theorem d_Ls_beginSums_16 : decode b_Ls_beginSums 16 = .ok (.invokevirtual 63, 3) := by decide +kernel
theorem d_Ls_beginSums_19 : decode b_Ls_beginSums 19 = .ok (.iinc 2 1, 3) := by decide +kernel
theorem d_Ls_beginSums_22 : decode b_Ls_beginSums 22 = .ok (.goto (-20), 3) := by decide +kernel
theorem d_Ls_beginSums_25 : decode b_Ls_beginSums 25 = .ok (.return_, 1) := by decide +kernel
abbrev b_Ls_stillHold : ByteArray := prog_5_method_13_code
def y_Ls_stillHold : MethodName := ⟨RLs, "stillHold", "(II)Z"⟩
theorem k_Ls_stillHold : Cond.code y_Ls_stillHold b_Ls_stillHold 4 (some .boolean) ∈ tt := (tt3 16 rfl rfl)
theorem i_Ls_stillHold : Cond.instanceMethod y_Ls_stillHold ∈ tt := (tt3 14 rfl rfl)
theorem l_Ls_stillHold : Cond.selects RLs y_Ls_stillHold y_Ls_stillHold ∈ tt := (tt3 15 rfl rfl)
theorem d_Ls_stillHold_0 : decode b_Ls_stillHold 0 = .ok (.iconst 0, 1) := by decide +kernel
theorem d_Ls_stillHold_1 : decode b_Ls_stillHold 1 = .ok (.istore_n 3, 1) := by decide +kernel
theorem d_Ls_stillHold_2 : decode b_Ls_stillHold 2 = .ok (.iload_n 3, 1) := by decide +kernel
theorem d_Ls_stillHold_3 : decode b_Ls_stillHold 3 = .ok (.aload_n 0, 1) := by decide +kernel
theorem d_Ls_stillHold_4 : decode b_Ls_stillHold 4 = .ok (.getfield 20, 3) := by decide +kernel
theorem d_Ls_stillHold_7 : decode b_Ls_stillHold 7 = .ok (.if_icmp .ge 25, 3) := by decide +kernel
theorem d_Ls_stillHold_10 : decode b_Ls_stillHold 10 = .ok (.aload_n 0, 1) := by decide +kernel
theorem d_Ls_stillHold_11 : decode b_Ls_stillHold 11 = .ok (.getfield 11, 3) := by decide +kernel
theorem d_Ls_stillHold_14 : decode b_Ls_stillHold 14 = .ok (.iload_n 3, 1) := by decide +kernel
theorem d_Ls_stillHold_15 : decode b_Ls_stillHold 15 = .ok (.aaload, 1) := by decide +kernel
theorem d_Ls_stillHold_16 : decode b_Ls_stillHold 16 = .ok (.iload_n 1, 1) := by decide +kernel
theorem d_Ls_stillHold_17 : decode b_Ls_stillHold 17 = .ok (.iload_n 2, 1) := by decide +kernel
theorem d_Ls_stillHold_18 : decode b_Ls_stillHold 18 = .ok (.invokevirtual 67, 3) := by decide +kernel
theorem d_Ls_stillHold_21 : decode b_Ls_stillHold 21 = .ok (.ifCond .ne 5, 3) := by decide +kernel
theorem d_Ls_stillHold_24 : decode b_Ls_stillHold 24 = .ok (.iconst 0, 1) := by decide +kernel
theorem d_Ls_stillHold_25 : decode b_Ls_stillHold 25 = .ok (.ireturn, 1) := by decide +kernel
theorem d_Ls_stillHold_26 : decode b_Ls_stillHold 26 = .ok (.iinc 3 1, 3) := by decide +kernel
theorem d_Ls_stillHold_29 : decode b_Ls_stillHold 29 = .ok (.goto (-27), 3) := by decide +kernel
theorem d_Ls_stillHold_32 : decode b_Ls_stillHold 32 = .ok (.iconst 0, 1) := by decide +kernel
theorem d_Ls_stillHold_33 : decode b_Ls_stillHold 33 = .ok (.istore_n 3, 1) := by decide +kernel
theorem d_Ls_stillHold_34 : decode b_Ls_stillHold 34 = .ok (.iload_n 3, 1) := by decide +kernel
theorem d_Ls_stillHold_35 : decode b_Ls_stillHold 35 = .ok (.aload_n 0, 1) := by decide +kernel
theorem d_Ls_stillHold_36 : decode b_Ls_stillHold 36 = .ok (.getfield 24, 3) := by decide +kernel
theorem d_Ls_stillHold_39 : decode b_Ls_stillHold 39 = .ok (.if_icmp .ge 25, 3) := by decide +kernel
theorem d_Ls_stillHold_42 : decode b_Ls_stillHold 42 = .ok (.aload_n 0, 1) := by decide +kernel
theorem d_Ls_stillHold_43 : decode b_Ls_stillHold 43 = .ok (.getfield 17, 3) := by decide +kernel
theorem d_Ls_stillHold_46 : decode b_Ls_stillHold 46 = .ok (.iload_n 3, 1) := by decide +kernel
theorem d_Ls_stillHold_47 : decode b_Ls_stillHold 47 = .ok (.aaload, 1) := by decide +kernel
theorem d_Ls_stillHold_48 : decode b_Ls_stillHold 48 = .ok (.iload_n 1, 1) := by decide +kernel
theorem d_Ls_stillHold_49 : decode b_Ls_stillHold 49 = .ok (.iload_n 2, 1) := by decide +kernel
theorem d_Ls_stillHold_50 : decode b_Ls_stillHold 50 = .ok (.invokevirtual 67, 3) := by decide +kernel
theorem d_Ls_stillHold_53 : decode b_Ls_stillHold 53 = .ok (.ifCond .ne 5, 3) := by decide +kernel
theorem d_Ls_stillHold_56 : decode b_Ls_stillHold 56 = .ok (.iconst 0, 1) := by decide +kernel
theorem d_Ls_stillHold_57 : decode b_Ls_stillHold 57 = .ok (.ireturn, 1) := by decide +kernel
theorem d_Ls_stillHold_58 : decode b_Ls_stillHold 58 = .ok (.iinc 3 1, 3) := by decide +kernel
theorem d_Ls_stillHold_61 : decode b_Ls_stillHold 61 = .ok (.goto (-27), 3) := by decide +kernel
theorem d_Ls_stillHold_64 : decode b_Ls_stillHold 64 = .ok (.iconst 1, 1) := by decide +kernel
theorem d_Ls_stillHold_65 : decode b_Ls_stillHold 65 = .ok (.ireturn, 1) := by decide +kernel
abbrev b_Ls_holdWithoutColumns : ByteArray := prog_5_method_14_code
def y_Ls_holdWithoutColumns : MethodName := ⟨RLs, "holdWithoutColumns", "()Z"⟩
theorem k_Ls_holdWithoutColumns : Cond.code y_Ls_holdWithoutColumns b_Ls_holdWithoutColumns 2 (some .boolean) ∈ tt := (tt3 3 rfl rfl)
theorem i_Ls_holdWithoutColumns : Cond.instanceMethod y_Ls_holdWithoutColumns ∈ tt := (tt3 1 rfl rfl)
theorem l_Ls_holdWithoutColumns : Cond.selects RLs y_Ls_holdWithoutColumns y_Ls_holdWithoutColumns ∈ tt := (tt3 2 rfl rfl)
theorem d_Ls_holdWithoutColumns_0 : decode b_Ls_holdWithoutColumns 0 = .ok (.iconst 0, 1) := by decide +kernel
theorem d_Ls_holdWithoutColumns_1 : decode b_Ls_holdWithoutColumns 1 = .ok (.istore_n 1, 1) := by decide +kernel
theorem d_Ls_holdWithoutColumns_2 : decode b_Ls_holdWithoutColumns 2 = .ok (.iload_n 1, 1) := by decide +kernel
theorem d_Ls_holdWithoutColumns_3 : decode b_Ls_holdWithoutColumns 3 = .ok (.aload_n 0, 1) := by decide +kernel
theorem d_Ls_holdWithoutColumns_4 : decode b_Ls_holdWithoutColumns 4 = .ok (.invokevirtual 46, 3) := by decide +kernel
theorem d_Ls_holdWithoutColumns_7 : decode b_Ls_holdWithoutColumns 7 = .ok (.if_icmp .ge 23, 3) := by decide +kernel
theorem d_Ls_holdWithoutColumns_10 : decode b_Ls_holdWithoutColumns 10 = .ok (.aload_n 0, 1) := by decide +kernel
theorem d_Ls_holdWithoutColumns_11 : decode b_Ls_holdWithoutColumns 11 = .ok (.iload_n 1, 1) := by decide +kernel
theorem d_Ls_holdWithoutColumns_12 : decode b_Ls_holdWithoutColumns 12 = .ok (.invokevirtual 50, 3) := by decide +kernel
theorem d_Ls_holdWithoutColumns_15 : decode b_Ls_holdWithoutColumns 15 = .ok (.iconst 0, 1) := by decide +kernel
theorem d_Ls_holdWithoutColumns_16 : decode b_Ls_holdWithoutColumns 16 = .ok (.invokevirtual 71, 3) := by decide +kernel
theorem d_Ls_holdWithoutColumns_19 : decode b_Ls_holdWithoutColumns 19 = .ok (.ifCond .ne 5, 3) := by decide +kernel
theorem d_Ls_holdWithoutColumns_22 : decode b_Ls_holdWithoutColumns 22 = .ok (.iconst 0, 1) := by decide +kernel
theorem d_Ls_holdWithoutColumns_23 : decode b_Ls_holdWithoutColumns 23 = .ok (.ireturn, 1) := by decide +kernel
theorem d_Ls_holdWithoutColumns_24 : decode b_Ls_holdWithoutColumns 24 = .ok (.iinc 1 1, 3) := by decide +kernel
theorem d_Ls_holdWithoutColumns_27 : decode b_Ls_holdWithoutColumns 27 = .ok (.goto (-25), 3) := by decide +kernel
theorem d_Ls_holdWithoutColumns_30 : decode b_Ls_holdWithoutColumns 30 = .ok (.iconst 1, 1) := by decide +kernel
theorem d_Ls_holdWithoutColumns_31 : decode b_Ls_holdWithoutColumns 31 = .ok (.ireturn, 1) := by decide +kernel
