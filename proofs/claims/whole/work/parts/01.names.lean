-- ===== PART A: goes FIRST, ahead of the names: the tables' words, and 'selects' of the private methods out of them =====
/-- a private method of a class that the tables say can be made, by its rows of tables_1 -/
def lw_okq (q : MethodName × Nat) : Prop := (q.1.cls ≠ "java/lang/invoke/MethodHandle" ∧ q.1.cls ≠ "java/lang/invoke/VarHandle") ∧ Cond.instantiable q.1.cls q.2 ∈ tables_1 ∧ Cond.privateMethod q.1 ∈ tables_1 ∧ Cond.instanceMethod q.1 ∈ tables_1
theorem lw_p0 : lw_okq (⟨"OrderBounds$Line", "kindest", "(LOrderBounds$Columns;I)I"⟩, 6) := ⟨⟨by decide +kernel, by decide +kernel⟩, List.mem_of_getElem? (i := 50) (by decide +kernel), List.mem_of_getElem? (i := 210) (by decide +kernel), List.mem_of_getElem? (i := 211) (by decide +kernel)⟩
theorem lw_p1 : lw_okq (⟨"OrderBounds", "packedSum", "(ILOrderBounds$Line;)I"⟩, 4) := ⟨⟨by decide +kernel, by decide +kernel⟩, List.mem_of_getElem? (i := 18) (by decide +kernel), List.mem_of_getElem? (i := 232) (by decide +kernel), List.mem_of_getElem? (i := 233) (by decide +kernel)⟩
theorem lw_p2 : lw_okq (⟨"java/lang/Throwable", "fillInStackTrace", "(I)Ljava/lang/Throwable;"⟩, 6) := ⟨⟨by decide +kernel, by decide +kernel⟩, List.mem_of_getElem? (i := 286) (by decide +kernel), List.mem_of_getElem? (i := 284) (by decide +kernel), List.mem_of_getElem? (i := 285) (by decide +kernel)⟩
theorem lw_p3 : lw_okq (⟨"OrderBounds$Lines", "clearWeights", "()V"⟩, 4) := ⟨⟨by decide +kernel, by decide +kernel⟩, List.mem_of_getElem? (i := 43) (by decide +kernel), List.mem_of_getElem? (i := 382) (by decide +kernel), List.mem_of_getElem? (i := 383) (by decide +kernel)⟩
theorem lw_p4 : lw_okq (⟨"OrderBounds", "isNoRow", "(I)Z"⟩, 4) := ⟨⟨by decide +kernel, by decide +kernel⟩, List.mem_of_getElem? (i := 18) (by decide +kernel), List.mem_of_getElem? (i := 398) (by decide +kernel), List.mem_of_getElem? (i := 399) (by decide +kernel)⟩
theorem lw_p5 : lw_okq (⟨"OrderBounds", "isNoColumn", "(I)Z"⟩, 4) := ⟨⟨by decide +kernel, by decide +kernel⟩, List.mem_of_getElem? (i := 18) (by decide +kernel), List.mem_of_getElem? (i := 418) (by decide +kernel), List.mem_of_getElem? (i := 419) (by decide +kernel)⟩
theorem lw_p6 : lw_okq (⟨"OrderBounds", "isNoPair", "(II)Z"⟩, 4) := ⟨⟨by decide +kernel, by decide +kernel⟩, List.mem_of_getElem? (i := 18) (by decide +kernel), List.mem_of_getElem? (i := 443) (by decide +kernel), List.mem_of_getElem? (i := 444) (by decide +kernel)⟩
theorem lw_p7 : lw_okq (⟨"OrderBounds$Search", "endWithoutColumns", "()V"⟩, 10) := ⟨⟨by decide +kernel, by decide +kernel⟩, List.mem_of_getElem? (i := 88) (by decide +kernel), List.mem_of_getElem? (i := 477) (by decide +kernel), List.mem_of_getElem? (i := 478) (by decide +kernel)⟩
theorem lw_p8 : lw_okq (⟨"OrderBounds$Search", "step", "()V"⟩, 10) := ⟨⟨by decide +kernel, by decide +kernel⟩, List.mem_of_getElem? (i := 88) (by decide +kernel), List.mem_of_getElem? (i := 486) (by decide +kernel), List.mem_of_getElem? (i := 487) (by decide +kernel)⟩
theorem lw_p9 : lw_okq (⟨"OrderBounds$Search", "isWorthwhile", "(I)Z"⟩, 10) := ⟨⟨by decide +kernel, by decide +kernel⟩, List.mem_of_getElem? (i := 88) (by decide +kernel), List.mem_of_getElem? (i := 490) (by decide +kernel), List.mem_of_getElem? (i := 491) (by decide +kernel)⟩
theorem lw_p10 : lw_okq (⟨"OrderBounds$Search", "toNextNumber", "()V"⟩, 10) := ⟨⟨by decide +kernel, by decide +kernel⟩, List.mem_of_getElem? (i := 88) (by decide +kernel), List.mem_of_getElem? (i := 502) (by decide +kernel), List.mem_of_getElem? (i := 503) (by decide +kernel)⟩
theorem lw_p11 : lw_okq (⟨"OrderBounds$Search", "keep", "(I)V"⟩, 10) := ⟨⟨by decide +kernel, by decide +kernel⟩, List.mem_of_getElem? (i := 88) (by decide +kernel), List.mem_of_getElem? (i := 506) (by decide +kernel), List.mem_of_getElem? (i := 507) (by decide +kernel)⟩
theorem lw_p12 : lw_okq (⟨"OrderBoundsModel", "goes", "(ZZ)Z"⟩, 24) := ⟨⟨by decide +kernel, by decide +kernel⟩, List.mem_of_getElem? (i := 620) (by decide +kernel), List.mem_of_getElem? (i := 711) (by decide +kernel), List.mem_of_getElem? (i := 712) (by decide +kernel)⟩
theorem lw_p13 : lw_okq (⟨"OrderBoundsModel", "anew", "()V"⟩, 24) := ⟨⟨by decide +kernel, by decide +kernel⟩, List.mem_of_getElem? (i := 620) (by decide +kernel), List.mem_of_getElem? (i := 715) (by decide +kernel), List.mem_of_getElem? (i := 716) (by decide +kernel)⟩
theorem lw_p14 : lw_okq (⟨"OrderBoundsModel", "noMultipliers", "()V"⟩, 24) := ⟨⟨by decide +kernel, by decide +kernel⟩, List.mem_of_getElem? (i := 620) (by decide +kernel), List.mem_of_getElem? (i := 723) (by decide +kernel), List.mem_of_getElem? (i := 724) (by decide +kernel)⟩
theorem lw_p15 : lw_okq (⟨"OrderBoundsModel", "isRow", "(I)Z"⟩, 24) := ⟨⟨by decide +kernel, by decide +kernel⟩, List.mem_of_getElem? (i := 620) (by decide +kernel), List.mem_of_getElem? (i := 731) (by decide +kernel), List.mem_of_getElem? (i := 732) (by decide +kernel)⟩
def lw_privs_1 : List (MethodName × Nat) := [(⟨"OrderBounds$Line", "kindest", "(LOrderBounds$Columns;I)I"⟩, 6), (⟨"OrderBounds", "packedSum", "(ILOrderBounds$Line;)I"⟩, 4), (⟨"java/lang/Throwable", "fillInStackTrace", "(I)Ljava/lang/Throwable;"⟩, 6), (⟨"OrderBounds$Lines", "clearWeights", "()V"⟩, 4), (⟨"OrderBounds", "isNoRow", "(I)Z"⟩, 4), (⟨"OrderBounds", "isNoColumn", "(I)Z"⟩, 4), (⟨"OrderBounds", "isNoPair", "(II)Z"⟩, 4), (⟨"OrderBounds$Search", "endWithoutColumns", "()V"⟩, 10), (⟨"OrderBounds$Search", "step", "()V"⟩, 10), (⟨"OrderBounds$Search", "isWorthwhile", "(I)Z"⟩, 10), (⟨"OrderBounds$Search", "toNextNumber", "()V"⟩, 10), (⟨"OrderBounds$Search", "keep", "(I)V"⟩, 10), (⟨"OrderBoundsModel", "goes", "(ZZ)Z"⟩, 24), (⟨"OrderBoundsModel", "anew", "()V"⟩, 24), (⟨"OrderBoundsModel", "noMultipliers", "()V"⟩, 24), (⟨"OrderBoundsModel", "isRow", "(I)Z"⟩, 24)]
theorem lw_r1 : ∀ q ∈ lw_privs_1, lw_okq q := List.forall_mem_cons.mpr ⟨lw_p0, List.forall_mem_cons.mpr ⟨lw_p1, List.forall_mem_cons.mpr ⟨lw_p2, List.forall_mem_cons.mpr ⟨lw_p3, List.forall_mem_cons.mpr ⟨lw_p4, List.forall_mem_cons.mpr ⟨lw_p5, List.forall_mem_cons.mpr ⟨lw_p6, List.forall_mem_cons.mpr ⟨lw_p7, List.forall_mem_cons.mpr ⟨lw_p8, List.forall_mem_cons.mpr ⟨lw_p9, List.forall_mem_cons.mpr ⟨lw_p10, List.forall_mem_cons.mpr ⟨lw_p11, List.forall_mem_cons.mpr ⟨lw_p12, List.forall_mem_cons.mpr ⟨lw_p13, List.forall_mem_cons.mpr ⟨lw_p14, List.forall_mem_cons.mpr ⟨lw_p15, fun _ h => absurd h List.not_mem_nil⟩⟩⟩⟩⟩⟩⟩⟩⟩⟩⟩⟩⟩⟩⟩⟩
theorem lw_p16 : lw_okq (⟨"OrderBoundsModel", "isColumn", "(I)Z"⟩, 24) := ⟨⟨by decide +kernel, by decide +kernel⟩, List.mem_of_getElem? (i := 620) (by decide +kernel), List.mem_of_getElem? (i := 735) (by decide +kernel), List.mem_of_getElem? (i := 736) (by decide +kernel)⟩
theorem lw_p17 : lw_okq (⟨"OrderBoundsModel", "isCut", "(I)Z"⟩, 24) := ⟨⟨by decide +kernel, by decide +kernel⟩, List.mem_of_getElem? (i := 620) (by decide +kernel), List.mem_of_getElem? (i := 752) (by decide +kernel), List.mem_of_getElem? (i := 753) (by decide +kernel)⟩
theorem lw_p18 : lw_okq (⟨"OrderBoundsModel", "worthOf", "(I)I"⟩, 24) := ⟨⟨by decide +kernel, by decide +kernel⟩, List.mem_of_getElem? (i := 620) (by decide +kernel), List.mem_of_getElem? (i := 756) (by decide +kernel), List.mem_of_getElem? (i := 757) (by decide +kernel)⟩
theorem lw_p19 : lw_okq (⟨"OrderBoundsModel", "canHold", "(I[II)Z"⟩, 24) := ⟨⟨by decide +kernel, by decide +kernel⟩, List.mem_of_getElem? (i := 620) (by decide +kernel), List.mem_of_getElem? (i := 760) (by decide +kernel), List.mem_of_getElem? (i := 761) (by decide +kernel)⟩
theorem lw_p20 : lw_okq (⟨"OrderBoundsModel", "factorOf", "(II)I"⟩, 24) := ⟨⟨by decide +kernel, by decide +kernel⟩, List.mem_of_getElem? (i := 620) (by decide +kernel), List.mem_of_getElem? (i := 764) (by decide +kernel), List.mem_of_getElem? (i := 765) (by decide +kernel)⟩
theorem lw_p21 : lw_okq (⟨"OrderBoundsModel", "kindOf", "(I)I"⟩, 24) := ⟨⟨by decide +kernel, by decide +kernel⟩, List.mem_of_getElem? (i := 620) (by decide +kernel), List.mem_of_getElem? (i := 768) (by decide +kernel), List.mem_of_getElem? (i := 769) (by decide +kernel)⟩
theorem lw_p22 : lw_okq (⟨"OrderBoundsModel", "rightOf", "(I)I"⟩, 24) := ⟨⟨by decide +kernel, by decide +kernel⟩, List.mem_of_getElem? (i := 620) (by decide +kernel), List.mem_of_getElem? (i := 772) (by decide +kernel), List.mem_of_getElem? (i := 773) (by decide +kernel)⟩
theorem lw_p23 : lw_okq (⟨"OrderBoundsModel", "keeps", "()V"⟩, 24) := ⟨⟨by decide +kernel, by decide +kernel⟩, List.mem_of_getElem? (i := 620) (by decide +kernel), List.mem_of_getElem? (i := 776) (by decide +kernel), List.mem_of_getElem? (i := 777) (by decide +kernel)⟩
theorem lw_p24 : lw_okq (⟨"OrderBoundsModel", "isChain", "(II)Z"⟩, 24) := ⟨⟨by decide +kernel, by decide +kernel⟩, List.mem_of_getElem? (i := 620) (by decide +kernel), List.mem_of_getElem? (i := 815) (by decide +kernel), List.mem_of_getElem? (i := 816) (by decide +kernel)⟩
def lw_privs_2 : List (MethodName × Nat) := [(⟨"OrderBoundsModel", "isColumn", "(I)Z"⟩, 24), (⟨"OrderBoundsModel", "isCut", "(I)Z"⟩, 24), (⟨"OrderBoundsModel", "worthOf", "(I)I"⟩, 24), (⟨"OrderBoundsModel", "canHold", "(I[II)Z"⟩, 24), (⟨"OrderBoundsModel", "factorOf", "(II)I"⟩, 24), (⟨"OrderBoundsModel", "kindOf", "(I)I"⟩, 24), (⟨"OrderBoundsModel", "rightOf", "(I)I"⟩, 24), (⟨"OrderBoundsModel", "keeps", "()V"⟩, 24), (⟨"OrderBoundsModel", "isChain", "(II)Z"⟩, 24)]
theorem lw_r2 : ∀ q ∈ lw_privs_2, lw_okq q := List.forall_mem_cons.mpr ⟨lw_p16, List.forall_mem_cons.mpr ⟨lw_p17, List.forall_mem_cons.mpr ⟨lw_p18, List.forall_mem_cons.mpr ⟨lw_p19, List.forall_mem_cons.mpr ⟨lw_p20, List.forall_mem_cons.mpr ⟨lw_p21, List.forall_mem_cons.mpr ⟨lw_p22, List.forall_mem_cons.mpr ⟨lw_p23, List.forall_mem_cons.mpr ⟨lw_p24, fun _ h => absurd h List.not_mem_nil⟩⟩⟩⟩⟩⟩⟩⟩⟩
def lw_privs : List (MethodName × Nat) := lw_privs_1 ++ (lw_privs_2)
def lw_tbl : List Cond := k2_sels lw_privs ++ tables_1
theorem lw_privs_ok : ∀ q ∈ lw_privs, lw_okq q := by
  show ∀ q ∈ lw_privs_1 ++ (lw_privs_2), lw_okq q
  exact List.forall_mem_append.mpr ⟨lw_r1, lw_r2⟩
/-! the words that every contract may use: all good ones of the tables -/
def tt : List Cond := lw_tbl.filter goodWord
theorem tt_tbl : ∀ w ∈ tt, w ∈ lw_tbl := fun w h => (List.mem_filter.mp h).1
theorem tt_good {w : Cond} (h : w ∈ tt) : (w.onTables && w.keeps) = true ∨ ∃ ty, w = .arrayClass ty := good_of_word (List.mem_filter.mp h).2
theorem tt0 {w : Cond} (i : Nat) (h : (k2_sels lw_privs)[i]? = some w) (hg : goodWord w = true) : w ∈ tt := List.mem_filter.mpr ⟨List.mem_append_left _ (List.mem_of_getElem? h), hg⟩
theorem tt1 {w : Cond} (i : Nat) (h : tables_1_1[i]? = some w) (hg : goodWord w = true) : w ∈ tt := List.mem_filter.mpr ⟨List.mem_append_right _ (List.mem_append_left _ (List.mem_of_getElem? h)), hg⟩
theorem tt2 {w : Cond} (i : Nat) (h : tables_1_2[i]? = some w) (hg : goodWord w = true) : w ∈ tt := List.mem_filter.mpr ⟨List.mem_append_right _ (List.mem_append_right _ (List.mem_append_left _ (List.mem_of_getElem? h))), hg⟩
theorem tt3 {w : Cond} (i : Nat) (h : tables_1_3[i]? = some w) (hg : goodWord w = true) : w ∈ tt := List.mem_filter.mpr ⟨List.mem_append_right _ (List.mem_append_right _ (List.mem_append_right _ (List.mem_append_left _ (List.mem_of_getElem? h)))), hg⟩
theorem tt4 {w : Cond} (i : Nat) (h : tables_1_4[i]? = some w) (hg : goodWord w = true) : w ∈ tt := List.mem_filter.mpr ⟨List.mem_append_right _ (List.mem_append_right _ (List.mem_append_right _ (List.mem_append_right _ (List.mem_of_getElem? h)))), hg⟩
theorem tt_V {cw : Cond} {own C : String} {idx n : Nat} {y : MethodName} {b : ByteArray} {ret : Option FieldType} (h1 : Cond.methodLink own idx y ∈ tt) (h2 : Cond.instanceMethod y ∈ tt) (h3 : Cond.selects C y y ∈ tt) (h4 : Cond.initialized C ∈ tt) (h5 : Cond.code y b n ret ∈ tt) : GoodIn (cw :: tt) (wsV own idx C y (Cond.code y b n ret :: tt)) := by
  intro w hw
  have hm : w ∈ tt := by
    simp only [wsV, List.cons_append, List.nil_append, List.mem_cons] at hw
    rcases hw with rfl | rfl | rfl | rfl | rfl | hw
    · exact h1
    · exact h2
    · exact h3
    · exact h4
    · exact h5
    · exact hw
  exact ⟨List.mem_cons_of_mem _ hm, tt_good hm⟩
theorem tt_S {cw : Cond} {own : String} {idx n : Nat} {y : MethodName} {b : ByteArray} {ret : Option FieldType} (h1 : Cond.methodLink own idx y ∈ tt) (h2 : Cond.static y ∈ tt) (h4 : Cond.initialized own ∈ tt) (h5 : Cond.code y b n ret ∈ tt) : GoodIn (cw :: tt) (wsS own idx y (Cond.code y b n ret :: tt)) := by
  intro w hw
  have hm : w ∈ tt := by
    simp only [wsS, List.cons_append, List.nil_append, List.mem_cons] at hw
    rcases hw with rfl | rfl | rfl | rfl | hw
    · exact h1
    · exact h2
    · exact h4
    · exact h5
    · exact hw
  exact ⟨List.mem_cons_of_mem _ hm, tt_good hm⟩
theorem tt_SJ {cw : Cond} {own : String} {idx n : Nat} {y : MethodName} {b : ByteArray} {ret : Option FieldType} (h1 : Cond.methodLink own idx y ∈ tt) (h2 : Cond.static y ∈ tt) (h4 : Cond.initialized y.cls ∈ tt) (h5 : Cond.code y b n ret ∈ tt) : GoodIn (cw :: tt) (va_wsS own idx y (Cond.code y b n ret :: tt)) := by
  intro w hw
  have hm : w ∈ tt := by
    simp only [va_wsS, List.cons_append, List.nil_append, List.mem_cons] at hw
    rcases hw with rfl | rfl | rfl | rfl | hw
    · exact h1
    · exact h2
    · exact h4
    · exact h5
    · exact hw
  exact ⟨List.mem_cons_of_mem _ hm, tt_good hm⟩
theorem tt_C {cw : Cond} {y : MethodName} {b : ByteArray} {n : Nat} {ret : Option FieldType} (h5 : Cond.code y b n ret ∈ tt) : GoodIn (cw :: tt) (Cond.code y b n ret :: tt) := by
  intro w hw
  have hm : w ∈ tt := by
    rcases List.mem_cons.mp hw with rfl | hw
    · exact h5
    · exact hw
  exact ⟨List.mem_cons_of_mem _ hm, tt_good hm⟩
def RCo : String := "OrderBounds$Columns"
theorem in9_Co : Cond.initialized RCo ∈ tt := (tt1 2 rfl rfl)
def TCo : u_T := fun k => match k with
  | 0 => ("OrderBounds$Columns", "worths", "[I", true)
  | 1 => ("OrderBounds$Columns", "tops", "[I", true)
  | _ => ("OrderBounds$Columns", "count", "I", false)
def tyCo : Nat → FieldType := fun k => match k with
  | 0 => .array .int
  | 1 => .array .int
  | _ => .int
theorem nmCo : ∀ a, a < 3 → ∀ b, b < 3 → a ≠ b → (TCo a).2.1 ≠ (TCo b).2.1 := by decide +kernel
theorem tkCo : ∀ k, k < 3 → parseFieldDescriptor (TCo k).2.2.1 = some (tyCo k) := by decide +kernel
theorem wuCo : ∀ w ∈ u_ws RCo TCo 3, w ∈ tt := List.forall_mem_cons.mpr ⟨(tt1 34 rfl rfl), List.forall_mem_cons.mpr ⟨(tt1 36 rfl rfl), List.forall_mem_cons.mpr ⟨(tt1 38 rfl rfl), fun _ h => absurd h List.not_mem_nil⟩⟩⟩
def RLi : String := "OrderBounds$Line"
theorem in9_Li : Cond.initialized RLi ∈ tt := (tt1 4 rfl rfl)
def TLi : u_T := fun k => match k with
  | 0 => ("OrderBounds$Line", "factors", "[I", true)
  | 1 => ("OrderBounds$Line", "kind", "I", false)
  | 2 => ("OrderBounds$Line", "right", "I", false)
  | 3 => ("OrderBounds$Line", "weight", "I", false)
  | 4 => ("OrderBounds$Line", "sums", "[I", true)
  | _ => ("OrderBounds$Line", "helps", "[I", true)
def tyLi : Nat → FieldType := fun k => match k with
  | 0 => .array .int
  | 1 => .int
  | 2 => .int
  | 3 => .int
  | 4 => .array .int
  | _ => .array .int
theorem nmLi : ∀ a, a < 6 → ∀ b, b < 6 → a ≠ b → (TLi a).2.1 ≠ (TLi b).2.1 := by decide +kernel
theorem tkLi : ∀ k, k < 6 → parseFieldDescriptor (TLi k).2.2.1 = some (tyLi k) := by decide +kernel
theorem wuLi : ∀ w ∈ u_ws RLi TLi 6, w ∈ tt := List.forall_mem_cons.mpr ⟨(tt1 61 rfl rfl), List.forall_mem_cons.mpr ⟨(tt1 63 rfl rfl), List.forall_mem_cons.mpr ⟨(tt1 65 rfl rfl), List.forall_mem_cons.mpr ⟨(tt1 67 rfl rfl), List.forall_mem_cons.mpr ⟨(tt1 69 rfl rfl), List.forall_mem_cons.mpr ⟨(tt1 71 rfl rfl), fun _ h => absurd h List.not_mem_nil⟩⟩⟩⟩⟩⟩
def RLs : String := "OrderBounds$Lines"
theorem in9_Ls : Cond.initialized RLs ∈ tt := (tt1 3 rfl rfl)
def TLs : u_T := fun k => match k with
  | 0 => ("OrderBounds$Lines", "rows", "[LOrderBounds$Line;", true)
  | 1 => ("OrderBounds$Lines", "cuts", "[LOrderBounds$Line;", true)
  | 2 => ("OrderBounds$Lines", "rowCount", "I", false)
  | _ => ("OrderBounds$Lines", "cutCount", "I", false)
def tyLs : Nat → FieldType := fun k => match k with
  | 0 => .array (.object "OrderBounds$Line")
  | 1 => .array (.object "OrderBounds$Line")
  | 2 => .int
  | _ => .int
theorem nmLs : ∀ a, a < 4 → ∀ b, b < 4 → a ≠ b → (TLs a).2.1 ≠ (TLs b).2.1 := by decide +kernel
theorem tkLs : ∀ k, k < 4 → parseFieldDescriptor (TLs k).2.2.1 = some (tyLs k) := by decide +kernel
theorem wuLs : ∀ w ∈ u_ws RLs TLs 4, w ∈ tt := List.forall_mem_cons.mpr ⟨(tt1 78 rfl rfl), List.forall_mem_cons.mpr ⟨(tt1 80 rfl rfl), List.forall_mem_cons.mpr ⟨(tt1 82 rfl rfl), List.forall_mem_cons.mpr ⟨(tt1 84 rfl rfl), fun _ h => absurd h List.not_mem_nil⟩⟩⟩⟩
def RSe : String := "OrderBounds$Search"
theorem in9_Se : Cond.initialized RSe ∈ tt := (tt1 5 rfl rfl)
def TSe : u_T := fun k => match k with
  | 0 => ("OrderBounds$Search", "columns", "LOrderBounds$Columns;", true)
  | 1 => ("OrderBounds$Search", "lines", "LOrderBounds$Lines;", true)
  | 2 => ("OrderBounds$Search", "numbers", "[I", true)
  | 3 => ("OrderBounds$Search", "bestNumbers", "[I", true)
  | 4 => ("OrderBounds$Search", "worths", "[I", true)
  | 5 => ("OrderBounds$Search", "hopes", "[I", true)
  | 6 => ("OrderBounds$Search", "at", "I", false)
  | 7 => ("OrderBounds$Search", "steps", "I", false)
  | 8 => ("OrderBounds$Search", "found", "Z", false)
  | _ => ("OrderBounds$Search", "bestWorth", "I", false)
def tySe : Nat → FieldType := fun k => match k with
  | 0 => .object "OrderBounds$Columns"
  | 1 => .object "OrderBounds$Lines"
  | 2 => .array .int
  | 3 => .array .int
  | 4 => .array .int
  | 5 => .array .int
  | 6 => .int
  | 7 => .int
  | 8 => .boolean
  | _ => .int
theorem nmSe : ∀ a, a < 10 → ∀ b, b < 10 → a ≠ b → (TSe a).2.1 ≠ (TSe b).2.1 := by decide +kernel
theorem tkSe : ∀ k, k < 10 → parseFieldDescriptor (TSe k).2.2.1 = some (tySe k) := by decide +kernel
theorem wuSe : ∀ w ∈ u_ws RSe TSe 10, w ∈ tt := List.forall_mem_cons.mpr ⟨(tt1 103 rfl rfl), List.forall_mem_cons.mpr ⟨(tt1 105 rfl rfl), List.forall_mem_cons.mpr ⟨(tt1 107 rfl rfl), List.forall_mem_cons.mpr ⟨(tt1 109 rfl rfl), List.forall_mem_cons.mpr ⟨(tt1 111 rfl rfl), List.forall_mem_cons.mpr ⟨(tt1 113 rfl rfl), List.forall_mem_cons.mpr ⟨(tt1 115 rfl rfl), List.forall_mem_cons.mpr ⟨(tt1 117 rfl rfl), List.forall_mem_cons.mpr ⟨(tt1 119 rfl rfl), List.forall_mem_cons.mpr ⟨(tt1 121 rfl rfl), fun _ h => absurd h List.not_mem_nil⟩⟩⟩⟩⟩⟩⟩⟩⟩⟩
def RFo : String := "OrderBounds$Follows"
theorem in9_Fo : Cond.initialized RFo ∈ tt := (tt1 6 rfl rfl)
def TFo : u_T := fun k => match k with
  | 0 => ("OrderBounds$Follows", "behind", "[I", true)
  | _ => ("OrderBounds$Follows", "count", "I", false)
def tyFo : Nat → FieldType := fun k => match k with
  | 0 => .array .int
  | _ => .int
theorem nmFo : ∀ a, a < 2 → ∀ b, b < 2 → a ≠ b → (TFo a).2.1 ≠ (TFo b).2.1 := by decide +kernel
theorem tkFo : ∀ k, k < 2 → parseFieldDescriptor (TFo k).2.2.1 = some (tyFo k) := by decide +kernel
theorem wuFo : ∀ w ∈ u_ws RFo TFo 2, w ∈ tt := List.forall_mem_cons.mpr ⟨(tt1 132 rfl rfl), List.forall_mem_cons.mpr ⟨(tt1 134 rfl rfl), fun _ h => absurd h List.not_mem_nil⟩⟩
def ROB : String := "OrderBounds"
theorem in9_OB : Cond.initialized ROB ∈ tt := (tt1 1 rfl rfl)
def TOB : u_T := fun k => match k with
  | 0 => ("OrderBounds", "columns", "LOrderBounds$Columns;", true)
  | 1 => ("OrderBounds", "lines", "LOrderBounds$Lines;", true)
  | 2 => ("OrderBounds", "search", "LOrderBounds$Search;", true)
  | _ => ("OrderBounds", "follows", "LOrderBounds$Follows;", true)
def tyOB : Nat → FieldType := fun k => match k with
  | 0 => .object "OrderBounds$Columns"
  | 1 => .object "OrderBounds$Lines"
  | 2 => .object "OrderBounds$Search"
  | _ => .object "OrderBounds$Follows"
theorem nmOB : ∀ a, a < 4 → ∀ b, b < 4 → a ≠ b → (TOB a).2.1 ≠ (TOB b).2.1 := by decide +kernel
theorem tkOB : ∀ k, k < 4 → parseFieldDescriptor (TOB k).2.2.1 = some (tyOB k) := by decide +kernel
theorem wuOB : ∀ w ∈ u_ws ROB TOB 4, w ∈ tt := List.forall_mem_cons.mpr ⟨(tt1 141 rfl rfl), List.forall_mem_cons.mpr ⟨(tt1 143 rfl rfl), List.forall_mem_cons.mpr ⟨(tt1 145 rfl rfl), List.forall_mem_cons.mpr ⟨(tt1 147 rfl rfl), fun _ h => absurd h List.not_mem_nil⟩⟩⟩⟩
def RMo : String := "OrderBoundsModel"
theorem in9_Mo : Cond.initialized RMo ∈ tt := (tt1 7 rfl rfl)
def TMo : u_T := fun k => match k with
  | 0 => ("OrderBoundsModel", "thrown", "I", false)
  | 1 => ("OrderBoundsModel", "columns", "I", false)
  | 2 => ("OrderBoundsModel", "worth", "[I", true)
  | 3 => ("OrderBoundsModel", "top", "[I", true)
  | 4 => ("OrderBoundsModel", "rows", "I", false)
  | 5 => ("OrderBoundsModel", "kind", "[I", true)
  | 6 => ("OrderBoundsModel", "right", "[I", true)
  | 7 => ("OrderBoundsModel", "factor", "[I", true)
  | 8 => ("OrderBoundsModel", "cuts", "I", false)
  | 9 => ("OrderBoundsModel", "cutA", "[I", true)
  | 10 => ("OrderBoundsModel", "cutB", "[I", true)
  | 11 => ("OrderBoundsModel", "multiplier", "[I", true)
  | 12 => ("OrderBoundsModel", "follows", "I", false)
  | 13 => ("OrderBoundsModel", "behind", "[Z", true)
  | 14 => ("OrderBoundsModel", "depth", "I", false)
  | 15 => ("OrderBoundsModel", "next", "[I", true)
  | 16 => ("OrderBoundsModel", "number", "[I", true)
  | 17 => ("OrderBoundsModel", "ended", "Z", false)
  | 18 => ("OrderBoundsModel", "found", "Z", false)
  | 19 => ("OrderBoundsModel", "steps", "I", false)
  | 20 => ("OrderBoundsModel", "bestWorth", "I", false)
  | 21 => ("OrderBoundsModel", "best", "[I", true)
  | 22 => ("OrderBoundsModel", "chain", "[I", true)
  | _ => ("OrderBoundsModel", "tried", "[I", true)
def tyMo : Nat → FieldType := fun k => match k with
  | 0 => .int
  | 1 => .int
  | 2 => .array .int
  | 3 => .array .int
  | 4 => .int
  | 5 => .array .int
  | 6 => .array .int
  | 7 => .array .int
  | 8 => .int
  | 9 => .array .int
  | 10 => .array .int
  | 11 => .array .int
  | 12 => .int
  | 13 => .array .boolean
  | 14 => .int
  | 15 => .array .int
  | 16 => .array .int
  | 17 => .boolean
  | 18 => .boolean
  | 19 => .int
  | 20 => .int
  | 21 => .array .int
  | 22 => .array .int
  | _ => .array .int
theorem nmMo : ∀ a, a < 24 → ∀ b, b < 24 → a ≠ b → (TMo a).2.1 ≠ (TMo b).2.1 := by decide +kernel
theorem tkMo : ∀ k, k < 24 → parseFieldDescriptor (TMo k).2.2.1 = some (tyMo k) := by decide +kernel
theorem wuMo : ∀ w ∈ u_ws RMo TMo 24, w ∈ tt := List.forall_mem_cons.mpr ⟨(tt3 169 rfl rfl), List.forall_mem_cons.mpr ⟨(tt3 171 rfl rfl), List.forall_mem_cons.mpr ⟨(tt3 173 rfl rfl), List.forall_mem_cons.mpr ⟨(tt3 175 rfl rfl), List.forall_mem_cons.mpr ⟨(tt3 177 rfl rfl), List.forall_mem_cons.mpr ⟨(tt3 179 rfl rfl), List.forall_mem_cons.mpr ⟨(tt3 181 rfl rfl), List.forall_mem_cons.mpr ⟨(tt3 183 rfl rfl), List.forall_mem_cons.mpr ⟨(tt3 185 rfl rfl), List.forall_mem_cons.mpr ⟨(tt3 187 rfl rfl), List.forall_mem_cons.mpr ⟨(tt3 189 rfl rfl), List.forall_mem_cons.mpr ⟨(tt3 191 rfl rfl), List.forall_mem_cons.mpr ⟨(tt3 193 rfl rfl), List.forall_mem_cons.mpr ⟨(tt3 195 rfl rfl), List.forall_mem_cons.mpr ⟨(tt3 197 rfl rfl), List.forall_mem_cons.mpr ⟨(tt3 199 rfl rfl), List.forall_mem_cons.mpr ⟨(tt3 201 rfl rfl), List.forall_mem_cons.mpr ⟨(tt3 203 rfl rfl), List.forall_mem_cons.mpr ⟨(tt3 205 rfl rfl), List.forall_mem_cons.mpr ⟨(tt3 207 rfl rfl), List.forall_mem_cons.mpr ⟨(tt3 209 rfl rfl), List.forall_mem_cons.mpr ⟨(tt3 211 rfl rfl), List.forall_mem_cons.mpr ⟨(tt3 213 rfl rfl), List.forall_mem_cons.mpr ⟨(tt3 215 rfl rfl), fun _ h => absurd h List.not_mem_nil⟩⟩⟩⟩⟩⟩⟩⟩⟩⟩⟩⟩⟩⟩⟩⟩⟩⟩⟩⟩⟩⟩⟩⟩
def RLa : String := "OrderBoundsLaw"
theorem in9_La : Cond.initialized RLa ∈ tt := (tt1 0 rfl rfl)
def RJM : String := "java/lang/Math"
theorem in9_JM : Cond.initialized RJM ∈ tt := (tt1 13 rfl rfl)
abbrev vwCl : List vw_C := [(RCo, TCo, 3), (RLi, TLi, 6), (RLs, TLs, 4), (RSe, TSe, 10), (RFo, TFo, 2), (ROB, TOB, 4), (RMo, TMo, 24)]
