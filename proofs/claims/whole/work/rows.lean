section
-- ===== PART A: goes FIRST, ahead of the names: the tables' words, and 'selects' of the private methods out of them =====
/-- a private method of a class that the tables say can be made, by its rows of tables_1 -/
def lw_okq (q : MethodName × Nat) : Prop := (q.1.cls ≠ "java/lang/invoke/MethodHandle" ∧ q.1.cls ≠ "java/lang/invoke/VarHandle") ∧ Cond.instantiable q.1.cls q.2 ∈ tables_1 ∧ Cond.privateMethod q.1 ∈ tables_1 ∧ Cond.instanceMethod q.1 ∈ tables_1
theorem lw_p0 : lw_okq (⟨"OrderBounds$Line", "kindest", "(LOrderBounds$Columns;I)I"⟩, 6) := ⟨⟨by decide +kernel, by decide +kernel⟩, List.mem_of_getElem? (i := 50) (by decide +kernel), List.mem_of_getElem? (i := 210) (by decide +kernel), List.mem_of_getElem? (i := 211) (by decide +kernel)⟩
theorem lw_p1 : lw_okq (⟨"OrderBounds", "packedSum", "(ILOrderBounds$Line;)I"⟩, 4) := ⟨⟨by decide +kernel, by decide +kernel⟩, List.mem_of_getElem? (i := 18) (by decide +kernel), List.mem_of_getElem? (i := 232) (by decide +kernel), List.mem_of_getElem? (i := 233) (by decide +kernel)⟩
theorem lw_p2 : lw_okq (⟨"java/lang/Throwable", "fillInStackTrace", "(I)Ljava/lang/Throwable;"⟩, 6) := ⟨⟨by decide +kernel, by decide +kernel⟩, List.mem_of_getElem? (i := 286) (by decide +kernel), List.mem_of_getElem? (i := 284) (by decide +kernel), List.mem_of_getElem? (i := 285) (by decide +kernel)⟩
theorem lw_p3 : lw_okq (⟨"OrderBounds$Lines", "clearWeights", "()V"⟩, 4) := ⟨⟨by decide +kernel, by decide +kernel⟩, List.mem_of_getElem? (i := 43) (by decide +kernel), List.mem_of_getElem? (i := 382) (by decide +kernel), List.mem_of_getElem? (i := 383) (by decide +kernel)⟩
theorem lw_p4 : lw_okq (⟨"OrderBounds", "isNoRow", "(I)Z"⟩, 4) := ⟨⟨by decide +kernel, by decide +kernel⟩, List.mem_of_getElem? (i := 18) (by decide +kernel), List.mem_of_getElem? (i := 398) (by decide +kernel), List.mem_of_getElem? (i := 399) (by decide +kernel)⟩
theorem lw_p5 : lw_okq (⟨"OrderBounds", "isNoColumn", "(I)Z"⟩, 4) := ⟨⟨by decide +kernel, by decide +kernel⟩, List.mem_of_getElem? (i := 18) (by decide +kernel), List.mem_of_getElem? (i := 418) (by decide +kernel), List.mem_of_getElem? (i := 419) (by decide +kernel)⟩
theorem lw_p6 : lw_okq (⟨"OrderBounds", "isNoPair", "(II)Z"⟩, 4) := ⟨⟨by decide +kernel, by decide +kernel⟩, List.mem_of_getElem? (i := 18) (by decide +kernel), List.mem_of_getElem? (i := 443) (by decide +kernel), List.mem_of_getElem? (i := 444) (by decide +kernel)⟩
theorem lw_p7 : lw_okq (⟨"OrderBounds$Search", "endWithoutColumns", "()V"⟩, 10) := ⟨⟨by decide +kernel, by decide +kernel⟩, List.mem_of_getElem? (i := 88) (by decide +kernel), List.mem_of_getElem? (i := 477) (by decide +kernel), List.mem_of_getElem? (i := 478) (by decide +kernel)⟩
theorem lw_p8 : lw_okq (⟨"OrderBounds$Search", "step", "()V"⟩, 10) := ⟨⟨by decide +kernel, by decide +kernel⟩, List.mem_of_getElem? (i := 88) (by decide +kernel), List.mem_of_getElem? (i := 486) (by decide +kernel), List.mem_of_getElem? (i := 487) (by decide +kernel)⟩
theorem lw_p9 : lw_okq (⟨"OrderBounds$Search", "isWorthwhile", "(I)Z"⟩, 10) := ⟨⟨by decide +kernel, by decide +kernel⟩, List.mem_of_getElem? (i := 88) (by decide +kernel), List.mem_of_getElem? (i := 490) (by decide +kernel), List.mem_of_getElem? (i := 491) (by decide +kernel)⟩
theorem lw_p10 : lw_okq (⟨"OrderBounds$Search", "toNextNumber", "()V"⟩, 10) := ⟨⟨by decide +kernel, by decide +kernel⟩, List.mem_of_getElem? (i := 88) (by decide +kernel), List.mem_of_getElem? (i := 502) (by decide +kernel), List.mem_of_getElem? (i := 503) (by decide +kernel)⟩
theorem lw_p11 : lw_okq (⟨"OrderBounds$Search", "keep", "(I)V"⟩, 10) := ⟨⟨by decide +kernel, by decide +kernel⟩, List.mem_of_getElem? (i := 88) (by decide +kernel), List.mem_of_getElem? (i := 506) (by decide +kernel), List.mem_of_getElem? (i := 507) (by decide +kernel)⟩
theorem lw_p12 : lw_okq (⟨"OrderBoundsModel", "goes", "(ZZ)Z"⟩, 24) := ⟨⟨by decide +kernel, by decide +kernel⟩, List.mem_of_getElem? (i := 620) (by decide +kernel), List.mem_of_getElem? (i := 711) (by decide +kernel), List.mem_of_getElem? (i := 712) (by decide +kernel)⟩
theorem lw_p13 : lw_okq (⟨"OrderBoundsModel", "anew", "()V"⟩, 24) := ⟨⟨by decide +kernel, by decide +kernel⟩, List.mem_of_getElem? (i := 620) (by decide +kernel), List.mem_of_getElem? (i := 715) (by decide +kernel), List.mem_of_getElem? (i := 716) (by decide +kernel)⟩
theorem lw_p14 : lw_okq (⟨"OrderBoundsModel", "noMultipliers", "()V"⟩, 24) := ⟨⟨by decide +kernel, by decide +kernel⟩, List.mem_of_getElem? (i := 620) (by decide +kernel), List.mem_of_getElem? (i := 723) (by decide +kernel), List.mem_of_getElem? (i := 724) (by decide +kernel)⟩
theorem lw_p15 : lw_okq (⟨"OrderBoundsModel", "isRow", "(I)Z"⟩, 24) := ⟨⟨by decide +kernel, by decide +kernel⟩, List.mem_of_getElem? (i := 620) (by decide +kernel), List.mem_of_getElem? (i := 731) (by decide +kernel), List.mem_of_getElem? (i := 732) (by decide +kernel)⟩
def lw_privs_1 : List (MethodName × Nat) := [(⟨"OrderBounds$Line", "kindest", "(LOrderBounds$Columns;I)I"⟩, 6), (⟨"OrderBounds", "packedSum", "(ILOrderBounds$Line;)I"⟩, 4), (⟨"java/lang/Throwable", "fillInStackTrace", "(I)Ljava/lang/Throwable;"⟩, 6), (⟨"OrderBounds$Lines", "clearWeights", "()V"⟩, 4), (⟨"OrderBounds", "isNoRow", "(I)Z"⟩, 4), (⟨"OrderBounds", "isNoColumn", "(I)Z"⟩, 4), (⟨"OrderBounds", "isNoPair", "(II)Z"⟩, 4), (⟨"OrderBounds$Search", "endWithoutColumns", "()V"⟩, 10), (⟨"OrderBounds$Search", "step", "()V"⟩, 10), (⟨"OrderBounds$Search", "isWorthwhile", "(I)Z"⟩, 10), (⟨"OrderBounds$Search", "toNextNumber", "()V"⟩, 10), (⟨"OrderBounds$Search", "keep", "(I)V"⟩, 10), (⟨"OrderBoundsModel", "goes", "(ZZ)Z"⟩, 24), (⟨"OrderBoundsModel", "anew", "()V"⟩, 24), (⟨"OrderBoundsModel", "noMultipliers", "()V"⟩, 24), (⟨"OrderBoundsModel", "isRow", "(I)Z"⟩, 24)]
theorem lw_r1 : ∀ q ∈ lw_privs_1, lw_okq q := List.forall_mem_cons.mpr ⟨lw_p0, List.forall_mem_cons.mpr ⟨lw_p1, List.forall_mem_cons.mpr ⟨lw_p2, List.forall_mem_cons.mpr ⟨lw_p3, List.forall_mem_cons.mpr ⟨lw_p4, List.forall_mem_cons.mpr ⟨lw_p5, List.forall_mem_cons.mpr ⟨lw_p6, List.forall_mem_cons.mpr ⟨lw_p7, List.forall_mem_cons.mpr ⟨lw_p8, List.forall_mem_cons.mpr ⟨lw_p9, List.forall_mem_cons.mpr ⟨lw_p10, List.forall_mem_cons.mpr ⟨lw_p11, List.forall_mem_cons.mpr ⟨lw_p12, List.forall_mem_cons.mpr ⟨lw_p13, List.forall_mem_cons.mpr ⟨lw_p14, List.forall_mem_cons.mpr ⟨lw_p15, fun _ h => absurd h List.not_mem_nil⟩⟩⟩⟩⟩⟩⟩⟩⟩⟩⟩⟩⟩⟩⟩⟩
theorem lw_p16 : lw_okq (⟨"OrderBoundsModel", "isColumn", "(I)Z"⟩, 24) := ⟨⟨by decide +kernel, by decide +kernel⟩, List.mem_of_getElem? (i := 620) (by decide +kernel), List.mem_of_getElem? (i := 735) (by decide +kernel), List.mem_of_getElem? (i := 736) (by decide +kernel)⟩
theorem lw_p17 : lw_okq (⟨"OrderBoundsModel", "isCut", "(I)Z"⟩, 24) := ⟨⟨by decide +kernel, by decide +kernel⟩, List.mem_of_getElem? (i := 620) (by decide +kernel), List.mem_of_getElem? (i := 752) (by decide +kernel), List.mem_of_getElem? (i := 753) (by decide +kernel)⟩
theorem lw_p18 : lw_okq (⟨"OrderBoundsModel", "worthOf", "(I)I"⟩, 24) := ⟨⟨by decide +kernel, by decide +kernel⟩, List.mem_of_getElem? (i := 620) (by decide +kernel), List.mem_of_getElem? (i := 756) (by decide +kernel), List.mem_of_getElem? (i := 757) (by decide +kernel)⟩
theorem lw_p19 : lw_okq (⟨"OrderBoundsModel", "canHold", "(I[II)Z"⟩, 24) := ⟨⟨by decide +kernel, by decide +kernel⟩, List.mem_of_getElem? (i := 620) (by decide +kernel), List.mem_of_getElem? (i := 760) (by decide +kernel), List.mem_of_getElem? (i := 761) (by decide +kernel)⟩
theorem lw_p20 : lw_okq (⟨"OrderBoundsModel", "factorOf", "(II)I"⟩, 24) := ⟨⟨by decide +kernel, by decide +kernel⟩, List.mem_of_getElem? (i := 620) (by decide +kernel), List.mem_of_getElem? (i := 764) (by decide +kernel), List.mem_of_getElem? (i := 765) (by decide +kernel)⟩
theorem lw_p21 : lw_okq (⟨"OrderBoundsModel", "kindOf", "(I)I"⟩, 24) := ⟨⟨by decide +kernel, by decide +kernel⟩, List.mem_of_getElem? (i := 620) (by decide +kernel), List.mem_of_getElem? (i := 768) (by decide +kernel), List.mem_of_getElem? (i := 769) (by decide +kernel)⟩
theorem lw_p22 : lw_okq (⟨"OrderBoundsModel", "rightOf", "(I)I"⟩, 24) := ⟨⟨by decide +kernel, by decide +kernel⟩, List.mem_of_getElem? (i := 620) (by decide +kernel), List.mem_of_getElem? (i := 772) (by decide +kernel), List.mem_of_getElem? (i := 773) (by decide +kernel)⟩
theorem lw_p23 : lw_okq (⟨"OrderBoundsModel", "keeps", "()V"⟩, 24) := ⟨⟨by decide +kernel, by decide +kernel⟩, List.mem_of_getElem? (i := 620) (by decide +kernel), List.mem_of_getElem? (i := 776) (by decide +kernel), List.mem_of_getElem? (i := 777) (by decide +kernel)⟩
theorem lw_p24 : lw_okq (⟨"OrderBoundsModel", "isChain", "(II)Z"⟩, 24) := ⟨⟨by decide +kernel, by decide +kernel⟩, List.mem_of_getElem? (i := 620) (by decide +kernel), List.mem_of_getElem? (i := 815) (by decide +kernel), List.mem_of_getElem? (i := 816) (by decide +kernel)⟩
def lw_privs_2 : List (MethodName × Nat) := [(⟨"OrderBoundsModel", "isColumn", "(I)Z"⟩, 24), (⟨"OrderBoundsModel", "isCut", "(I)Z"⟩, 24), (⟨"OrderBoundsModel", "worthOf", "(I)I"⟩, 24), (⟨"OrderBoundsModel", "canHold", "(I[II)Z"⟩, 24), (⟨"OrderBoundsModel", "factorOf", "(II)I"⟩, 24), (⟨"OrderBoundsModel", "kindOf", "(I)I"⟩, 24), (⟨"OrderBoundsModel", "rightOf", "(I)I"⟩, 24), (⟨"OrderBoundsModel", "keeps", "()V"⟩, 24), (⟨"OrderBoundsModel", "isChain", "(II)Z"⟩, 24)]
theorem lw_r2 : ∀ q ∈ lw_privs_2, lw_okq q := List.forall_mem_cons.mpr ⟨lw_p16, List.forall_mem_cons.mpr ⟨lw_p17, List.forall_mem_cons.mpr ⟨lw_p18, List.forall_mem_cons.mpr ⟨lw_p19, List.forall_mem_cons.mpr ⟨lw_p20, List.forall_mem_cons.mpr ⟨lw_p21, List.forall_mem_cons.mpr ⟨lw_p22, List.forall_mem_cons.mpr ⟨lw_p23, List.forall_mem_cons.mpr ⟨lw_p24, fun _ h => absurd h List.not_mem_nil⟩⟩⟩⟩⟩⟩⟩⟩⟩
def lw_privs : List (MethodName × Nat) := lw_privs_1 ++ (lw_privs_2)
def lw_tbl : List Cond := k2_sels lw_privs ++ tables_1
theorem lw_privs_ok : ∀ q ∈ lw_privs, lw_okq q := by
  show ∀ q ∈ lw_privs_1 ++ (lw_privs_2), lw_okq q
  exact List.forall_mem_append.mpr ⟨lw_r1, lw_r2⟩
/-! the words that every contract may use: all good ones of the tables -/
def tt : List Cond := lw_tbl.filter goodWord
theorem tt_tbl : ∀ w ∈ tt, w ∈ lw_tbl := fun w h => (List.mem_filter.mp h).1
theorem tt_good {w : Cond} (h : w ∈ tt) : (w.onTables && w.keeps) = true ∨ ∃ ty, w = .arrayClass ty := good_of_word (List.mem_filter.mp h).2
theorem tt0 {w : Cond} (i : Nat) (h : (k2_sels lw_privs)[i]? = some w) (hg : goodWord w = true) : w ∈ tt := List.mem_filter.mpr ⟨List.mem_append_left _ (List.mem_of_getElem? h), hg⟩
theorem tt1 {w : Cond} (i : Nat) (h : tables_1_1[i]? = some w) (hg : goodWord w = true) : w ∈ tt := List.mem_filter.mpr ⟨List.mem_append_right _ (List.mem_append_left _ (List.mem_of_getElem? h)), hg⟩
theorem tt2 {w : Cond} (i : Nat) (h : tables_1_2[i]? = some w) (hg : goodWord w = true) : w ∈ tt := List.mem_filter.mpr ⟨List.mem_append_right _ (List.mem_append_right _ (List.mem_append_left _ (List.mem_of_getElem? h))), hg⟩
theorem tt3 {w : Cond} (i : Nat) (h : tables_1_3[i]? = some w) (hg : goodWord w = true) : w ∈ tt := List.mem_filter.mpr ⟨List.mem_append_right _ (List.mem_append_right _ (List.mem_append_right _ (List.mem_append_left _ (List.mem_of_getElem? h)))), hg⟩
theorem tt4 {w : Cond} (i : Nat) (h : tables_1_4[i]? = some w) (hg : goodWord w = true) : w ∈ tt := List.mem_filter.mpr ⟨List.mem_append_right _ (List.mem_append_right _ (List.mem_append_right _ (List.mem_append_right _ (List.mem_of_getElem? h)))), hg⟩
theorem tt_V {cw : Cond} {own C : String} {idx n : Nat} {y : MethodName} {b : ByteArray} {ret : Option FieldType} (h1 : Cond.methodLink own idx y ∈ tt) (h2 : Cond.instanceMethod y ∈ tt) (h3 : Cond.selects C y y ∈ tt) (h4 : Cond.initialized C ∈ tt) (h5 : Cond.code y b n ret ∈ tt) : GoodIn (cw :: tt) (wsV own idx C y (Cond.code y b n ret :: tt)) := by
  intro w hw
  have hm : w ∈ tt := by
    simp only [wsV, List.cons_append, List.nil_append, List.mem_cons] at hw
    rcases hw with rfl | rfl | rfl | rfl | rfl | hw
    · exact h1
    · exact h2
    · exact h3
    · exact h4
    · exact h5
    · exact hw
  exact ⟨List.mem_cons_of_mem _ hm, tt_good hm⟩
theorem tt_S {cw : Cond} {own : String} {idx n : Nat} {y : MethodName} {b : ByteArray} {ret : Option FieldType} (h1 : Cond.methodLink own idx y ∈ tt) (h2 : Cond.static y ∈ tt) (h4 : Cond.initialized own ∈ tt) (h5 : Cond.code y b n ret ∈ tt) : GoodIn (cw :: tt) (wsS own idx y (Cond.code y b n ret :: tt)) := by
  intro w hw
  have hm : w ∈ tt := by
    simp only [wsS, List.cons_append, List.nil_append, List.mem_cons] at hw
    rcases hw with rfl | rfl | rfl | rfl | hw
    · exact h1
    · exact h2
    · exact h4
    · exact h5
    · exact hw
  exact ⟨List.mem_cons_of_mem _ hm, tt_good hm⟩
theorem tt_SJ {cw : Cond} {own : String} {idx n : Nat} {y : MethodName} {b : ByteArray} {ret : Option FieldType} (h1 : Cond.methodLink own idx y ∈ tt) (h2 : Cond.static y ∈ tt) (h4 : Cond.initialized y.cls ∈ tt) (h5 : Cond.code y b n ret ∈ tt) : GoodIn (cw :: tt) (va_wsS own idx y (Cond.code y b n ret :: tt)) := by
  intro w hw
  have hm : w ∈ tt := by
    simp only [va_wsS, List.cons_append, List.nil_append, List.mem_cons] at hw
    rcases hw with rfl | rfl | rfl | rfl | hw
    · exact h1
    · exact h2
    · exact h4
    · exact h5
    · exact hw
  exact ⟨List.mem_cons_of_mem _ hm, tt_good hm⟩
theorem tt_C {cw : Cond} {y : MethodName} {b : ByteArray} {n : Nat} {ret : Option FieldType} (h5 : Cond.code y b n ret ∈ tt) : GoodIn (cw :: tt) (Cond.code y b n ret :: tt) := by
  intro w hw
  have hm : w ∈ tt := by
    rcases List.mem_cons.mp hw with rfl | hw
    · exact h5
    · exact hw
  exact ⟨List.mem_cons_of_mem _ hm, tt_good hm⟩
def RCo : String := "OrderBounds$Columns"
theorem in9_Co : Cond.initialized RCo ∈ tt := (tt1 2 rfl rfl)
def TCo : u_T := fun k => match k with
  | 0 => ("OrderBounds$Columns", "worths", "[I", true)
  | 1 => ("OrderBounds$Columns", "tops", "[I", true)
  | _ => ("OrderBounds$Columns", "count", "I", false)
def tyCo : Nat → FieldType := fun k => match k with
  | 0 => .array .int
  | 1 => .array .int
  | _ => .int
theorem nmCo : ∀ a, a < 3 → ∀ b, b < 3 → a ≠ b → (TCo a).2.1 ≠ (TCo b).2.1 := by decide +kernel
theorem tkCo : ∀ k, k < 3 → parseFieldDescriptor (TCo k).2.2.1 = some (tyCo k) := by decide +kernel
theorem wuCo : ∀ w ∈ u_ws RCo TCo 3, w ∈ tt := List.forall_mem_cons.mpr ⟨(tt1 34 rfl rfl), List.forall_mem_cons.mpr ⟨(tt1 36 rfl rfl), List.forall_mem_cons.mpr ⟨(tt1 38 rfl rfl), fun _ h => absurd h List.not_mem_nil⟩⟩⟩
def RLi : String := "OrderBounds$Line"
theorem in9_Li : Cond.initialized RLi ∈ tt := (tt1 4 rfl rfl)
def TLi : u_T := fun k => match k with
  | 0 => ("OrderBounds$Line", "factors", "[I", true)
  | 1 => ("OrderBounds$Line", "kind", "I", false)
  | 2 => ("OrderBounds$Line", "right", "I", false)
  | 3 => ("OrderBounds$Line", "weight", "I", false)
  | 4 => ("OrderBounds$Line", "sums", "[I", true)
  | _ => ("OrderBounds$Line", "helps", "[I", true)
def tyLi : Nat → FieldType := fun k => match k with
  | 0 => .array .int
  | 1 => .int
  | 2 => .int
  | 3 => .int
  | 4 => .array .int
  | _ => .array .int
theorem nmLi : ∀ a, a < 6 → ∀ b, b < 6 → a ≠ b → (TLi a).2.1 ≠ (TLi b).2.1 := by decide +kernel
theorem tkLi : ∀ k, k < 6 → parseFieldDescriptor (TLi k).2.2.1 = some (tyLi k) := by decide +kernel
theorem wuLi : ∀ w ∈ u_ws RLi TLi 6, w ∈ tt := List.forall_mem_cons.mpr ⟨(tt1 61 rfl rfl), List.forall_mem_cons.mpr ⟨(tt1 63 rfl rfl), List.forall_mem_cons.mpr ⟨(tt1 65 rfl rfl), List.forall_mem_cons.mpr ⟨(tt1 67 rfl rfl), List.forall_mem_cons.mpr ⟨(tt1 69 rfl rfl), List.forall_mem_cons.mpr ⟨(tt1 71 rfl rfl), fun _ h => absurd h List.not_mem_nil⟩⟩⟩⟩⟩⟩
def RLs : String := "OrderBounds$Lines"
theorem in9_Ls : Cond.initialized RLs ∈ tt := (tt1 3 rfl rfl)
def TLs : u_T := fun k => match k with
  | 0 => ("OrderBounds$Lines", "rows", "[LOrderBounds$Line;", true)
  | 1 => ("OrderBounds$Lines", "cuts", "[LOrderBounds$Line;", true)
  | 2 => ("OrderBounds$Lines", "rowCount", "I", false)
  | _ => ("OrderBounds$Lines", "cutCount", "I", false)
def tyLs : Nat → FieldType := fun k => match k with
  | 0 => .array (.object "OrderBounds$Line")
  | 1 => .array (.object "OrderBounds$Line")
  | 2 => .int
  | _ => .int
theorem nmLs : ∀ a, a < 4 → ∀ b, b < 4 → a ≠ b → (TLs a).2.1 ≠ (TLs b).2.1 := by decide +kernel
theorem tkLs : ∀ k, k < 4 → parseFieldDescriptor (TLs k).2.2.1 = some (tyLs k) := by decide +kernel
theorem wuLs : ∀ w ∈ u_ws RLs TLs 4, w ∈ tt := List.forall_mem_cons.mpr ⟨(tt1 78 rfl rfl), List.forall_mem_cons.mpr ⟨(tt1 80 rfl rfl), List.forall_mem_cons.mpr ⟨(tt1 82 rfl rfl), List.forall_mem_cons.mpr ⟨(tt1 84 rfl rfl), fun _ h => absurd h List.not_mem_nil⟩⟩⟩⟩
def RSe : String := "OrderBounds$Search"
theorem in9_Se : Cond.initialized RSe ∈ tt := (tt1 5 rfl rfl)
def TSe : u_T := fun k => match k with
  | 0 => ("OrderBounds$Search", "columns", "LOrderBounds$Columns;", true)
  | 1 => ("OrderBounds$Search", "lines", "LOrderBounds$Lines;", true)
  | 2 => ("OrderBounds$Search", "numbers", "[I", true)
  | 3 => ("OrderBounds$Search", "bestNumbers", "[I", true)
  | 4 => ("OrderBounds$Search", "worths", "[I", true)
  | 5 => ("OrderBounds$Search", "hopes", "[I", true)
  | 6 => ("OrderBounds$Search", "at", "I", false)
  | 7 => ("OrderBounds$Search", "steps", "I", false)
  | 8 => ("OrderBounds$Search", "found", "Z", false)
  | _ => ("OrderBounds$Search", "bestWorth", "I", false)
def tySe : Nat → FieldType := fun k => match k with
  | 0 => .object "OrderBounds$Columns"
  | 1 => .object "OrderBounds$Lines"
  | 2 => .array .int
  | 3 => .array .int
  | 4 => .array .int
  | 5 => .array .int
  | 6 => .int
  | 7 => .int
  | 8 => .boolean
  | _ => .int
theorem nmSe : ∀ a, a < 10 → ∀ b, b < 10 → a ≠ b → (TSe a).2.1 ≠ (TSe b).2.1 := by decide +kernel
theorem tkSe : ∀ k, k < 10 → parseFieldDescriptor (TSe k).2.2.1 = some (tySe k) := by decide +kernel
theorem wuSe : ∀ w ∈ u_ws RSe TSe 10, w ∈ tt := List.forall_mem_cons.mpr ⟨(tt1 103 rfl rfl), List.forall_mem_cons.mpr ⟨(tt1 105 rfl rfl), List.forall_mem_cons.mpr ⟨(tt1 107 rfl rfl), List.forall_mem_cons.mpr ⟨(tt1 109 rfl rfl), List.forall_mem_cons.mpr ⟨(tt1 111 rfl rfl), List.forall_mem_cons.mpr ⟨(tt1 113 rfl rfl), List.forall_mem_cons.mpr ⟨(tt1 115 rfl rfl), List.forall_mem_cons.mpr ⟨(tt1 117 rfl rfl), List.forall_mem_cons.mpr ⟨(tt1 119 rfl rfl), List.forall_mem_cons.mpr ⟨(tt1 121 rfl rfl), fun _ h => absurd h List.not_mem_nil⟩⟩⟩⟩⟩⟩⟩⟩⟩⟩
def RFo : String := "OrderBounds$Follows"
theorem in9_Fo : Cond.initialized RFo ∈ tt := (tt1 6 rfl rfl)
def TFo : u_T := fun k => match k with
  | 0 => ("OrderBounds$Follows", "behind", "[I", true)
  | _ => ("OrderBounds$Follows", "count", "I", false)
def tyFo : Nat → FieldType := fun k => match k with
  | 0 => .array .int
  | _ => .int
theorem nmFo : ∀ a, a < 2 → ∀ b, b < 2 → a ≠ b → (TFo a).2.1 ≠ (TFo b).2.1 := by decide +kernel
theorem tkFo : ∀ k, k < 2 → parseFieldDescriptor (TFo k).2.2.1 = some (tyFo k) := by decide +kernel
theorem wuFo : ∀ w ∈ u_ws RFo TFo 2, w ∈ tt := List.forall_mem_cons.mpr ⟨(tt1 132 rfl rfl), List.forall_mem_cons.mpr ⟨(tt1 134 rfl rfl), fun _ h => absurd h List.not_mem_nil⟩⟩
def ROB : String := "OrderBounds"
theorem in9_OB : Cond.initialized ROB ∈ tt := (tt1 1 rfl rfl)
def TOB : u_T := fun k => match k with
  | 0 => ("OrderBounds", "columns", "LOrderBounds$Columns;", true)
  | 1 => ("OrderBounds", "lines", "LOrderBounds$Lines;", true)
  | 2 => ("OrderBounds", "search", "LOrderBounds$Search;", true)
  | _ => ("OrderBounds", "follows", "LOrderBounds$Follows;", true)
def tyOB : Nat → FieldType := fun k => match k with
  | 0 => .object "OrderBounds$Columns"
  | 1 => .object "OrderBounds$Lines"
  | 2 => .object "OrderBounds$Search"
  | _ => .object "OrderBounds$Follows"
theorem nmOB : ∀ a, a < 4 → ∀ b, b < 4 → a ≠ b → (TOB a).2.1 ≠ (TOB b).2.1 := by decide +kernel
theorem tkOB : ∀ k, k < 4 → parseFieldDescriptor (TOB k).2.2.1 = some (tyOB k) := by decide +kernel
theorem wuOB : ∀ w ∈ u_ws ROB TOB 4, w ∈ tt := List.forall_mem_cons.mpr ⟨(tt1 141 rfl rfl), List.forall_mem_cons.mpr ⟨(tt1 143 rfl rfl), List.forall_mem_cons.mpr ⟨(tt1 145 rfl rfl), List.forall_mem_cons.mpr ⟨(tt1 147 rfl rfl), fun _ h => absurd h List.not_mem_nil⟩⟩⟩⟩
def RMo : String := "OrderBoundsModel"
theorem in9_Mo : Cond.initialized RMo ∈ tt := (tt1 7 rfl rfl)
def TMo : u_T := fun k => match k with
  | 0 => ("OrderBoundsModel", "thrown", "I", false)
  | 1 => ("OrderBoundsModel", "columns", "I", false)
  | 2 => ("OrderBoundsModel", "worth", "[I", true)
  | 3 => ("OrderBoundsModel", "top", "[I", true)
  | 4 => ("OrderBoundsModel", "rows", "I", false)
  | 5 => ("OrderBoundsModel", "kind", "[I", true)
  | 6 => ("OrderBoundsModel", "right", "[I", true)
  | 7 => ("OrderBoundsModel", "factor", "[I", true)
  | 8 => ("OrderBoundsModel", "cuts", "I", false)
  | 9 => ("OrderBoundsModel", "cutA", "[I", true)
  | 10 => ("OrderBoundsModel", "cutB", "[I", true)
  | 11 => ("OrderBoundsModel", "multiplier", "[I", true)
  | 12 => ("OrderBoundsModel", "follows", "I", false)
  | 13 => ("OrderBoundsModel", "behind", "[Z", true)
  | 14 => ("OrderBoundsModel", "depth", "I", false)
  | 15 => ("OrderBoundsModel", "next", "[I", true)
  | 16 => ("OrderBoundsModel", "number", "[I", true)
  | 17 => ("OrderBoundsModel", "ended", "Z", false)
  | 18 => ("OrderBoundsModel", "found", "Z", false)
  | 19 => ("OrderBoundsModel", "steps", "I", false)
  | 20 => ("OrderBoundsModel", "bestWorth", "I", false)
  | 21 => ("OrderBoundsModel", "best", "[I", true)
  | 22 => ("OrderBoundsModel", "chain", "[I", true)
  | _ => ("OrderBoundsModel", "tried", "[I", true)
def tyMo : Nat → FieldType := fun k => match k with
  | 0 => .int
  | 1 => .int
  | 2 => .array .int
  | 3 => .array .int
  | 4 => .int
  | 5 => .array .int
  | 6 => .array .int
  | 7 => .array .int
  | 8 => .int
  | 9 => .array .int
  | 10 => .array .int
  | 11 => .array .int
  | 12 => .int
  | 13 => .array .boolean
  | 14 => .int
  | 15 => .array .int
  | 16 => .array .int
  | 17 => .boolean
  | 18 => .boolean
  | 19 => .int
  | 20 => .int
  | 21 => .array .int
  | 22 => .array .int
  | _ => .array .int
theorem nmMo : ∀ a, a < 24 → ∀ b, b < 24 → a ≠ b → (TMo a).2.1 ≠ (TMo b).2.1 := by decide +kernel
theorem tkMo : ∀ k, k < 24 → parseFieldDescriptor (TMo k).2.2.1 = some (tyMo k) := by decide +kernel
theorem wuMo : ∀ w ∈ u_ws RMo TMo 24, w ∈ tt := List.forall_mem_cons.mpr ⟨(tt3 169 rfl rfl), List.forall_mem_cons.mpr ⟨(tt3 171 rfl rfl), List.forall_mem_cons.mpr ⟨(tt3 173 rfl rfl), List.forall_mem_cons.mpr ⟨(tt3 175 rfl rfl), List.forall_mem_cons.mpr ⟨(tt3 177 rfl rfl), List.forall_mem_cons.mpr ⟨(tt3 179 rfl rfl), List.forall_mem_cons.mpr ⟨(tt3 181 rfl rfl), List.forall_mem_cons.mpr ⟨(tt3 183 rfl rfl), List.forall_mem_cons.mpr ⟨(tt3 185 rfl rfl), List.forall_mem_cons.mpr ⟨(tt3 187 rfl rfl), List.forall_mem_cons.mpr ⟨(tt3 189 rfl rfl), List.forall_mem_cons.mpr ⟨(tt3 191 rfl rfl), List.forall_mem_cons.mpr ⟨(tt3 193 rfl rfl), List.forall_mem_cons.mpr ⟨(tt3 195 rfl rfl), List.forall_mem_cons.mpr ⟨(tt3 197 rfl rfl), List.forall_mem_cons.mpr ⟨(tt3 199 rfl rfl), List.forall_mem_cons.mpr ⟨(tt3 201 rfl rfl), List.forall_mem_cons.mpr ⟨(tt3 203 rfl rfl), List.forall_mem_cons.mpr ⟨(tt3 205 rfl rfl), List.forall_mem_cons.mpr ⟨(tt3 207 rfl rfl), List.forall_mem_cons.mpr ⟨(tt3 209 rfl rfl), List.forall_mem_cons.mpr ⟨(tt3 211 rfl rfl), List.forall_mem_cons.mpr ⟨(tt3 213 rfl rfl), List.forall_mem_cons.mpr ⟨(tt3 215 rfl rfl), fun _ h => absurd h List.not_mem_nil⟩⟩⟩⟩⟩⟩⟩⟩⟩⟩⟩⟩⟩⟩⟩⟩⟩⟩⟩⟩⟩⟩⟩⟩
def RLa : String := "OrderBoundsLaw"
theorem in9_La : Cond.initialized RLa ∈ tt := (tt1 0 rfl rfl)
def RJM : String := "java/lang/Math"
theorem in9_JM : Cond.initialized RJM ∈ tt := (tt1 13 rfl rfl)
abbrev vwCl : List vw_C := [(RCo, TCo, 3), (RLi, TLi, 6), (RLs, TLs, 4), (RSe, TSe, 10), (RFo, TFo, 2), (ROB, TOB, 4), (RMo, TMo, 24)]
end
section
abbrev b_Co_init : ByteArray := prog_2_method_1_code
def y_Co_init : MethodName := ⟨RCo, "<init>", "()V"⟩
theorem k_Co_init : Cond.code y_Co_init b_Co_init 1 none ∈ tt := (tt1 29 rfl rfl)
theorem i_Co_init : Cond.instanceMethod y_Co_init ∈ tt := (tt1 28 rfl rfl)
theorem d_Co_init_0 : decode b_Co_init 0 = .ok (.aload_n 0, 1) := by decide +kernel
theorem d_Co_init_1 : decode b_Co_init 1 = .ok (.invokespecial 3, 3) := by decide +kernel
theorem d_Co_init_4 : decode b_Co_init 4 = .ok (.aload_n 0, 1) := by decide +kernel
theorem d_Co_init_5 : decode b_Co_init 5 = .ok (.iconst 5, 1) := by decide +kernel
theorem d_Co_init_6 : decode b_Co_init 6 = .ok (.newarray .int, 2) := by decide +kernel
theorem d_Co_init_8 : decode b_Co_init 8 = .ok (.putfield 9, 3) := by decide +kernel
theorem d_Co_init_11 : decode b_Co_init 11 = .ok (.aload_n 0, 1) := by decide +kernel
theorem d_Co_init_12 : decode b_Co_init 12 = .ok (.iconst 5, 1) := by decide +kernel
theorem d_Co_init_13 : decode b_Co_init 13 = .ok (.newarray .int, 2) := by decide +kernel
theorem d_Co_init_15 : decode b_Co_init 15 = .ok (.putfield 15, 3) := by decide +kernel
theorem d_Co_init_18 : decode b_Co_init 18 = .ok (.aload_n 0, 1) := by decide +kernel
theorem d_Co_init_19 : decode b_Co_init 19 = .ok (.iconst 0, 1) := by decide +kernel
theorem d_Co_init_20 : decode b_Co_init 20 = .ok (.putfield 18, 3) := by decide +kernel
theorem d_Co_init_23 : decode b_Co_init 23 = .ok (.return_, 1) := by decide +kernel
abbrev b_Co_count : ByteArray := prog_2_method_2_code
def y_Co_count : MethodName := ⟨RCo, "count", "()I"⟩
theorem k_Co_count : Cond.code y_Co_count b_Co_count 1 (some .int) ∈ tt := (tt1 177 rfl rfl)
theorem i_Co_count : Cond.instanceMethod y_Co_count ∈ tt := (tt1 175 rfl rfl)
theorem l_Co_count : Cond.selects RCo y_Co_count y_Co_count ∈ tt := (tt1 176 rfl rfl)
theorem d_Co_count_0 : decode b_Co_count 0 = .ok (.aload_n 0, 1) := by decide +kernel
theorem d_Co_count_1 : decode b_Co_count 1 = .ok (.getfield 18, 3) := by decide +kernel
theorem d_Co_count_4 : decode b_Co_count 4 = .ok (.ireturn, 1) := by decide +kernel
abbrev b_Co_worth : ByteArray := prog_2_method_3_code
def y_Co_worth : MethodName := ⟨RCo, "worth", "(I)I"⟩
theorem k_Co_worth : Cond.code y_Co_worth b_Co_worth 2 (some .int) ∈ tt := (tt1 182 rfl rfl)
theorem i_Co_worth : Cond.instanceMethod y_Co_worth ∈ tt := (tt1 180 rfl rfl)
theorem l_Co_worth : Cond.selects RCo y_Co_worth y_Co_worth ∈ tt := (tt1 181 rfl rfl)
theorem d_Co_worth_0 : decode b_Co_worth 0 = .ok (.aload_n 0, 1) := by decide +kernel
theorem d_Co_worth_1 : decode b_Co_worth 1 = .ok (.getfield 9, 3) := by decide +kernel
theorem d_Co_worth_4 : decode b_Co_worth 4 = .ok (.iload_n 1, 1) := by decide +kernel
theorem d_Co_worth_5 : decode b_Co_worth 5 = .ok (.iaload, 1) := by decide +kernel
theorem d_Co_worth_6 : decode b_Co_worth 6 = .ok (.ireturn, 1) := by decide +kernel
abbrev b_Co_top : ByteArray := prog_2_method_4_code
def y_Co_top : MethodName := ⟨RCo, "top", "(I)I"⟩
theorem k_Co_top : Cond.code y_Co_top b_Co_top 2 (some .int) ∈ tt := (tt1 194 rfl rfl)
theorem i_Co_top : Cond.instanceMethod y_Co_top ∈ tt := (tt1 192 rfl rfl)
theorem l_Co_top : Cond.selects RCo y_Co_top y_Co_top ∈ tt := (tt1 193 rfl rfl)
theorem d_Co_top_0 : decode b_Co_top 0 = .ok (.aload_n 0, 1) := by decide +kernel
theorem d_Co_top_1 : decode b_Co_top 1 = .ok (.getfield 15, 3) := by decide +kernel
theorem d_Co_top_4 : decode b_Co_top 4 = .ok (.iload_n 1, 1) := by decide +kernel
theorem d_Co_top_5 : decode b_Co_top 5 = .ok (.iaload, 1) := by decide +kernel
theorem d_Co_top_6 : decode b_Co_top 6 = .ok (.ireturn, 1) := by decide +kernel
abbrev b_Co_add : ByteArray := prog_2_method_5_code
def y_Co_add : MethodName := ⟨RCo, "add", "(II)I"⟩
theorem k_Co_add : Cond.code y_Co_add b_Co_add 3 (some .int) ∈ tt := (tt2 95 rfl rfl)
theorem i_Co_add : Cond.instanceMethod y_Co_add ∈ tt := (tt2 93 rfl rfl)
theorem l_Co_add : Cond.selects RCo y_Co_add y_Co_add ∈ tt := (tt2 94 rfl rfl)
theorem d_Co_add_0 : decode b_Co_add 0 = .ok (.aload_n 0, 1) := by decide +kernel
theorem d_Co_add_1 : decode b_Co_add 1 = .ok (.getfield 9, 3) := by decide +kernel
theorem d_Co_add_4 : decode b_Co_add 4 = .ok (.aload_n 0, 1) := by decide +kernel
theorem d_Co_add_5 : decode b_Co_add 5 = .ok (.getfield 18, 3) := by decide +kernel
theorem d_Co_add_8 : decode b_Co_add 8 = .ok (.iload_n 1, 1) := by decide +kernel
theorem d_Co_add_9 : decode b_Co_add 9 = .ok (.iastore, 1) := by decide +kernel
theorem d_Co_add_10 : decode b_Co_add 10 = .ok (.aload_n 0, 1) := by decide +kernel
theorem d_Co_add_11 : decode b_Co_add 11 = .ok (.getfield 15, 3) := by decide +kernel
theorem d_Co_add_14 : decode b_Co_add 14 = .ok (.aload_n 0, 1) := by decide +kernel
theorem d_Co_add_15 : decode b_Co_add 15 = .ok (.getfield 18, 3) := by decide +kernel
theorem d_Co_add_18 : decode b_Co_add 18 = .ok (.iload_n 2, 1) := by decide +kernel
theorem d_Co_add_19 : decode b_Co_add 19 = .ok (.iastore, 1) := by decide +kernel
theorem d_Co_add_20 : decode b_Co_add 20 = .ok (.aload_n 0, 1) := by decide +kernel
theorem d_Co_add_21 : decode b_Co_add 21 = .ok (.dup, 1) := by decide +kernel
theorem d_Co_add_22 : decode b_Co_add 22 = .ok (.getfield 18, 3) := by decide +kernel
theorem d_Co_add_25 : decode b_Co_add 25 = .ok (.iconst 1, 1) := by decide +kernel
theorem d_Co_add_26 : decode b_Co_add 26 = .ok (.iadd, 1) := by decide +kernel
theorem d_Co_add_27 : decode b_Co_add 27 = .ok (.putfield 18, 3) := by decide +kernel
theorem d_Co_add_30 : decode b_Co_add 30 = .ok (.aload_n 0, 1) := by decide +kernel
theorem d_Co_add_31 : decode b_Co_add 31 = .ok (.getfield 18, 3) := by decide +kernel
theorem d_Co_add_34 : decode b_Co_add 34 = .ok (.iconst 1, 1) := by decide +kernel
theorem d_Co_add_35 : decode b_Co_add 35 = .ok (.isub, 1) := by decide +kernel
theorem d_Co_add_36 : decode b_Co_add 36 = .ok (.ireturn, 1) := by decide +kernel
abbrev b_Li_init : ByteArray := prog_4_method_1_code
def y_Li_init : MethodName := ⟨RLi, "<init>", "()V"⟩
theorem k_Li_init : Cond.code y_Li_init b_Li_init 1 none ∈ tt := (tt1 53 rfl rfl)
theorem i_Li_init : Cond.instanceMethod y_Li_init ∈ tt := (tt1 52 rfl rfl)
theorem d_Li_init_0 : decode b_Li_init 0 = .ok (.aload_n 0, 1) := by decide +kernel
theorem d_Li_init_1 : decode b_Li_init 1 = .ok (.invokespecial 3, 3) := by decide +kernel
theorem d_Li_init_4 : decode b_Li_init 4 = .ok (.aload_n 0, 1) := by decide +kernel
theorem d_Li_init_5 : decode b_Li_init 5 = .ok (.iconst 5, 1) := by decide +kernel
theorem d_Li_init_6 : decode b_Li_init 6 = .ok (.newarray .int, 2) := by decide +kernel
theorem d_Li_init_8 : decode b_Li_init 8 = .ok (.putfield 9, 3) := by decide +kernel
theorem d_Li_init_11 : decode b_Li_init 11 = .ok (.aload_n 0, 1) := by decide +kernel
theorem d_Li_init_12 : decode b_Li_init 12 = .ok (.iconst 0, 1) := by decide +kernel
theorem d_Li_init_13 : decode b_Li_init 13 = .ok (.putfield 15, 3) := by decide +kernel
theorem d_Li_init_16 : decode b_Li_init 16 = .ok (.aload_n 0, 1) := by decide +kernel
theorem d_Li_init_17 : decode b_Li_init 17 = .ok (.iconst 0, 1) := by decide +kernel
theorem d_Li_init_18 : decode b_Li_init 18 = .ok (.putfield 19, 3) := by decide +kernel
theorem d_Li_init_21 : decode b_Li_init 21 = .ok (.aload_n 0, 1) := by decide +kernel
theorem d_Li_init_22 : decode b_Li_init 22 = .ok (.iconst 0, 1) := by decide +kernel
theorem d_Li_init_23 : decode b_Li_init 23 = .ok (.putfield 22, 3) := by decide +kernel
theorem d_Li_init_26 : decode b_Li_init 26 = .ok (.aload_n 0, 1) := by decide +kernel
theorem d_Li_init_27 : decode b_Li_init 27 = .ok (.bipush 6, 2) := by decide +kernel
theorem d_Li_init_29 : decode b_Li_init 29 = .ok (.newarray .int, 2) := by decide +kernel
theorem d_Li_init_31 : decode b_Li_init 31 = .ok (.putfield 25, 3) := by decide +kernel
theorem d_Li_init_34 : decode b_Li_init 34 = .ok (.aload_n 0, 1) := by decide +kernel
theorem d_Li_init_35 : decode b_Li_init 35 = .ok (.bipush 6, 2) := by decide +kernel
theorem d_Li_init_37 : decode b_Li_init 37 = .ok (.newarray .int, 2) := by decide +kernel
theorem d_Li_init_39 : decode b_Li_init 39 = .ok (.putfield 28, 3) := by decide +kernel
theorem d_Li_init_42 : decode b_Li_init 42 = .ok (.return_, 1) := by decide +kernel
abbrev b_Li_rightSide : ByteArray := prog_4_method_2_code
def y_Li_rightSide : MethodName := ⟨RLi, "rightSide", "()I"⟩
theorem k_Li_rightSide : Cond.code y_Li_rightSide b_Li_rightSide 1 (some .int) ∈ tt := (tt1 173 rfl rfl)
theorem i_Li_rightSide : Cond.instanceMethod y_Li_rightSide ∈ tt := (tt1 171 rfl rfl)
theorem l_Li_rightSide : Cond.selects RLi y_Li_rightSide y_Li_rightSide ∈ tt := (tt1 172 rfl rfl)
theorem d_Li_rightSide_0 : decode b_Li_rightSide 0 = .ok (.aload_n 0, 1) := by decide +kernel
theorem d_Li_rightSide_1 : decode b_Li_rightSide 1 = .ok (.getfield 19, 3) := by decide +kernel
theorem d_Li_rightSide_4 : decode b_Li_rightSide 4 = .ok (.ireturn, 1) := by decide +kernel
abbrev b_Li_factorOf : ByteArray := prog_4_method_3_code
def y_Li_factorOf : MethodName := ⟨RLi, "factorOf", "(I)I"⟩
theorem k_Li_factorOf : Cond.code y_Li_factorOf b_Li_factorOf 2 (some .int) ∈ tt := (tt1 190 rfl rfl)
theorem i_Li_factorOf : Cond.instanceMethod y_Li_factorOf ∈ tt := (tt1 188 rfl rfl)
theorem l_Li_factorOf : Cond.selects RLi y_Li_factorOf y_Li_factorOf ∈ tt := (tt1 189 rfl rfl)
theorem d_Li_factorOf_0 : decode b_Li_factorOf 0 = .ok (.aload_n 0, 1) := by decide +kernel
theorem d_Li_factorOf_1 : decode b_Li_factorOf 1 = .ok (.getfield 9, 3) := by decide +kernel
theorem d_Li_factorOf_4 : decode b_Li_factorOf 4 = .ok (.iload_n 1, 1) := by decide +kernel
theorem d_Li_factorOf_5 : decode b_Li_factorOf 5 = .ok (.iaload, 1) := by decide +kernel
theorem d_Li_factorOf_6 : decode b_Li_factorOf 6 = .ok (.ireturn, 1) := by decide +kernel
abbrev b_Li_weight : ByteArray := prog_4_method_4_code
def y_Li_weight : MethodName := ⟨RLi, "weight", "()I"⟩
theorem k_Li_weight : Cond.code y_Li_weight b_Li_weight 1 (some .int) ∈ tt := (tt1 169 rfl rfl)
theorem i_Li_weight : Cond.instanceMethod y_Li_weight ∈ tt := (tt1 167 rfl rfl)
theorem l_Li_weight : Cond.selects RLi y_Li_weight y_Li_weight ∈ tt := (tt1 168 rfl rfl)
theorem d_Li_weight_0 : decode b_Li_weight 0 = .ok (.aload_n 0, 1) := by decide +kernel
theorem d_Li_weight_1 : decode b_Li_weight 1 = .ok (.getfield 22, 3) := by decide +kernel
theorem d_Li_weight_4 : decode b_Li_weight 4 = .ok (.ireturn, 1) := by decide +kernel
abbrev b_Li_setKind : ByteArray := prog_4_method_5_code
def y_Li_setKind : MethodName := ⟨RLi, "setKind", "(I)V"⟩
theorem k_Li_setKind : Cond.code y_Li_setKind b_Li_setKind 2 none ∈ tt := (tt2 136 rfl rfl)
theorem i_Li_setKind : Cond.instanceMethod y_Li_setKind ∈ tt := (tt2 134 rfl rfl)
theorem l_Li_setKind : Cond.selects RLi y_Li_setKind y_Li_setKind ∈ tt := (tt2 135 rfl rfl)
theorem d_Li_setKind_0 : decode b_Li_setKind 0 = .ok (.aload_n 0, 1) := by decide +kernel
theorem d_Li_setKind_1 : decode b_Li_setKind 1 = .ok (.iload_n 1, 1) := by decide +kernel
theorem d_Li_setKind_2 : decode b_Li_setKind 2 = .ok (.putfield 15, 3) := by decide +kernel
theorem d_Li_setKind_5 : decode b_Li_setKind 5 = .ok (.return_, 1) := by decide +kernel
abbrev b_Li_setRight : ByteArray := prog_4_method_6_code
def y_Li_setRight : MethodName := ⟨RLi, "setRight", "(I)V"⟩
theorem k_Li_setRight : Cond.code y_Li_setRight b_Li_setRight 2 none ∈ tt := (tt2 140 rfl rfl)
theorem i_Li_setRight : Cond.instanceMethod y_Li_setRight ∈ tt := (tt2 138 rfl rfl)
theorem l_Li_setRight : Cond.selects RLi y_Li_setRight y_Li_setRight ∈ tt := (tt2 139 rfl rfl)
theorem d_Li_setRight_0 : decode b_Li_setRight 0 = .ok (.aload_n 0, 1) := by decide +kernel
theorem d_Li_setRight_1 : decode b_Li_setRight 1 = .ok (.iload_n 1, 1) := by decide +kernel
theorem d_Li_setRight_2 : decode b_Li_setRight 2 = .ok (.putfield 19, 3) := by decide +kernel
theorem d_Li_setRight_5 : decode b_Li_setRight 5 = .ok (.return_, 1) := by decide +kernel
abbrev b_Li_setFactor : ByteArray := prog_4_method_7_code
def y_Li_setFactor : MethodName := ⟨RLi, "setFactor", "(II)V"⟩
theorem k_Li_setFactor : Cond.code y_Li_setFactor b_Li_setFactor 3 none ∈ tt := (tt2 186 rfl rfl)
theorem i_Li_setFactor : Cond.instanceMethod y_Li_setFactor ∈ tt := (tt2 184 rfl rfl)
theorem l_Li_setFactor : Cond.selects RLi y_Li_setFactor y_Li_setFactor ∈ tt := (tt2 185 rfl rfl)
theorem d_Li_setFactor_0 : decode b_Li_setFactor 0 = .ok (.aload_n 0, 1) := by decide +kernel
theorem d_Li_setFactor_1 : decode b_Li_setFactor 1 = .ok (.getfield 9, 3) := by decide +kernel
theorem d_Li_setFactor_4 : decode b_Li_setFactor 4 = .ok (.iload_n 1, 1) := by decide +kernel
theorem d_Li_setFactor_5 : decode b_Li_setFactor 5 = .ok (.iload_n 2, 1) := by decide +kernel
theorem d_Li_setFactor_6 : decode b_Li_setFactor 6 = .ok (.iastore, 1) := by decide +kernel
theorem d_Li_setFactor_7 : decode b_Li_setFactor 7 = .ok (.return_, 1) := by decide +kernel
abbrev b_Li_setWeight : ByteArray := prog_4_method_8_code
def y_Li_setWeight : MethodName := ⟨RLi, "setWeight", "(I)V"⟩
theorem k_Li_setWeight : Cond.code y_Li_setWeight b_Li_setWeight 2 none ∈ tt := (tt2 148 rfl rfl)
theorem i_Li_setWeight : Cond.instanceMethod y_Li_setWeight ∈ tt := (tt2 146 rfl rfl)
theorem l_Li_setWeight : Cond.selects RLi y_Li_setWeight y_Li_setWeight ∈ tt := (tt2 147 rfl rfl)
theorem d_Li_setWeight_0 : decode b_Li_setWeight 0 = .ok (.aload_n 0, 1) := by decide +kernel
theorem d_Li_setWeight_1 : decode b_Li_setWeight 1 = .ok (.iload_n 1, 1) := by decide +kernel
theorem d_Li_setWeight_2 : decode b_Li_setWeight 2 = .ok (.putfield 22, 3) := by decide +kernel
theorem d_Li_setWeight_5 : decode b_Li_setWeight 5 = .ok (.return_, 1) := by decide +kernel
abbrev b_Li_allowsWeight : ByteArray := prog_4_method_9_code
def y_Li_allowsWeight : MethodName := ⟨RLi, "allowsWeight", "(I)Z"⟩
theorem k_Li_allowsWeight : Cond.code y_Li_allowsWeight b_Li_allowsWeight 2 (some .boolean) ∈ tt := (tt3 91 rfl rfl)
theorem i_Li_allowsWeight : Cond.instanceMethod y_Li_allowsWeight ∈ tt := (tt3 89 rfl rfl)
theorem l_Li_allowsWeight : Cond.selects RLi y_Li_allowsWeight y_Li_allowsWeight ∈ tt := (tt3 90 rfl rfl)
theorem d_Li_allowsWeight_0 : decode b_Li_allowsWeight 0 = .ok (.aload_n 0, 1) := by decide +kernel
theorem d_Li_allowsWeight_1 : decode b_Li_allowsWeight 1 = .ok (.getfield 15, 3) := by decide +kernel
theorem d_Li_allowsWeight_4 : decode b_Li_allowsWeight 4 = .ok (.ifCond .ne 19, 3) := by decide +kernel
theorem d_Li_allowsWeight_7 : decode b_Li_allowsWeight 7 = .ok (.iload_n 1, 1) := by decide +kernel
theorem d_Li_allowsWeight_8 : decode b_Li_allowsWeight 8 = .ok (.ifCond .lt 13, 3) := by decide +kernel
theorem d_Li_allowsWeight_11 : decode b_Li_allowsWeight 11 = .ok (.iload_n 1, 1) := by decide +kernel
theorem d_Li_allowsWeight_12 : decode b_Li_allowsWeight 12 = .ok (.ldc 31, 2) := by decide +kernel
theorem d_Li_allowsWeight_14 : decode b_Li_allowsWeight 14 = .ok (.if_icmp .gt 7, 3) := by decide +kernel
theorem d_Li_allowsWeight_17 : decode b_Li_allowsWeight 17 = .ok (.iconst 1, 1) := by decide +kernel
theorem d_Li_allowsWeight_18 : decode b_Li_allowsWeight 18 = .ok (.goto 4, 3) := by decide +kernel
theorem d_Li_allowsWeight_21 : decode b_Li_allowsWeight 21 = .ok (.iconst 0, 1) := by decide +kernel
theorem d_Li_allowsWeight_22 : decode b_Li_allowsWeight 22 = .ok (.ireturn, 1) := by decide +kernel
theorem d_Li_allowsWeight_23 : decode b_Li_allowsWeight 23 = .ok (.iload_n 1, 1) := by decide +kernel
theorem d_Li_allowsWeight_24 : decode b_Li_allowsWeight 24 = .ok (.ifCond .gt 13, 3) := by decide +kernel
theorem d_Li_allowsWeight_27 : decode b_Li_allowsWeight 27 = .ok (.iload_n 1, 1) := by decide +kernel
theorem d_Li_allowsWeight_28 : decode b_Li_allowsWeight 28 = .ok (.ldc 32, 2) := by decide +kernel
theorem d_Li_allowsWeight_30 : decode b_Li_allowsWeight 30 = .ok (.if_icmp .lt 7, 3) := by decide +kernel
theorem d_Li_allowsWeight_33 : decode b_Li_allowsWeight 33 = .ok (.iconst 1, 1) := by decide +kernel
theorem d_Li_allowsWeight_34 : decode b_Li_allowsWeight 34 = .ok (.goto 4, 3) := by decide +kernel
theorem d_Li_allowsWeight_37 : decode b_Li_allowsWeight 37 = .ok (.iconst 0, 1) := by decide +kernel
theorem d_Li_allowsWeight_38 : decode b_Li_allowsWeight 38 = .ok (.ireturn, 1) := by decide +kernel
abbrev b_Li_holds : ByteArray := prog_4_method_10_code
def y_Li_holds : MethodName := ⟨RLi, "holds", "(I)Z"⟩
theorem k_Li_holds : Cond.code y_Li_holds b_Li_holds 2 (some .boolean) ∈ tt := (tt1 223 rfl rfl)
theorem i_Li_holds : Cond.instanceMethod y_Li_holds ∈ tt := (tt1 221 rfl rfl)
theorem l_Li_holds : Cond.selects RLi y_Li_holds y_Li_holds ∈ tt := (tt1 222 rfl rfl)
theorem d_Li_holds_0 : decode b_Li_holds 0 = .ok (.aload_n 0, 1) := by decide +kernel
theorem d_Li_holds_1 : decode b_Li_holds 1 = .ok (.getfield 15, 3) := by decide +kernel
theorem d_Li_holds_4 : decode b_Li_holds 4 = .ok (.ifCond .ne 19, 3) := by decide +kernel
theorem d_Li_holds_7 : decode b_Li_holds 7 = .ok (.iload_n 1, 1) := by decide +kernel
theorem d_Li_holds_8 : decode b_Li_holds 8 = .ok (.aload_n 0, 1) := by decide +kernel
theorem d_Li_holds_9 : decode b_Li_holds 9 = .ok (.getfield 19, 3) := by decide +kernel
theorem d_Li_holds_12 : decode b_Li_holds 12 = .ok (.if_icmp .gt 7, 3) := by decide +kernel
theorem d_Li_holds_15 : decode b_Li_holds 15 = .ok (.iconst 1, 1) := by decide +kernel
theorem d_Li_holds_16 : decode b_Li_holds 16 = .ok (.goto 20, 3) := by decide +kernel
theorem d_Li_holds_19 : decode b_Li_holds 19 = .ok (.iconst 0, 1) := by decide +kernel
theorem d_Li_holds_20 : decode b_Li_holds 20 = .ok (.goto 16, 3) := by decide +kernel
theorem d_Li_holds_23 : decode b_Li_holds 23 = .ok (.iload_n 1, 1) := by decide +kernel
theorem d_Li_holds_24 : decode b_Li_holds 24 = .ok (.aload_n 0, 1) := by decide +kernel
theorem d_Li_holds_25 : decode b_Li_holds 25 = .ok (.getfield 19, 3) := by decide +kernel
theorem d_Li_holds_28 : decode b_Li_holds 28 = .ok (.if_icmp .lt 7, 3) := by decide +kernel
theorem d_Li_holds_31 : decode b_Li_holds 31 = .ok (.iconst 1, 1) := by decide +kernel
theorem d_Li_holds_32 : decode b_Li_holds 32 = .ok (.goto 4, 3) := by decide +kernel
theorem d_Li_holds_35 : decode b_Li_holds 35 = .ok (.iconst 0, 1) := by decide +kernel
theorem d_Li_holds_36 : decode b_Li_holds 36 = .ok (.ireturn, 1) := by decide +kernel
abbrev b_Li_canHold : ByteArray := prog_4_method_11_code
def y_Li_canHold : MethodName := ⟨RLi, "canHold", "(LOrderBounds$Columns;)Z"⟩
theorem k_Li_canHold : Cond.code y_Li_canHold b_Li_canHold 4 (some .boolean) ∈ tt := (tt1 207 rfl rfl)
theorem i_Li_canHold : Cond.instanceMethod y_Li_canHold ∈ tt := (tt1 205 rfl rfl)
theorem l_Li_canHold : Cond.selects RLi y_Li_canHold y_Li_canHold ∈ tt := (tt1 206 rfl rfl)
theorem d_Li_canHold_0 : decode b_Li_canHold 0 = .ok (.iconst 0, 1) := by decide +kernel
theorem d_Li_canHold_1 : decode b_Li_canHold 1 = .ok (.istore_n 2, 1) := by decide +kernel
theorem d_Li_canHold_2 : decode b_Li_canHold 2 = .ok (.iconst 0, 1) := by decide +kernel
theorem d_Li_canHold_3 : decode b_Li_canHold 3 = .ok (.istore_n 3, 1) := by decide +kernel
theorem d_Li_canHold_4 : decode b_Li_canHold 4 = .ok (.iload_n 3, 1) := by decide +kernel
theorem d_Li_canHold_5 : decode b_Li_canHold 5 = .ok (.aload_n 1, 1) := by decide +kernel
theorem d_Li_canHold_6 : decode b_Li_canHold 6 = .ok (.invokevirtual 33, 3) := by decide +kernel
theorem d_Li_canHold_9 : decode b_Li_canHold 9 = .ok (.if_icmp .ge 18, 3) := by decide +kernel
theorem d_Li_canHold_12 : decode b_Li_canHold 12 = .ok (.iload_n 2, 1) := by decide +kernel
theorem d_Li_canHold_13 : decode b_Li_canHold 13 = .ok (.aload_n 0, 1) := by decide +kernel
theorem d_Li_canHold_14 : decode b_Li_canHold 14 = .ok (.aload_n 1, 1) := by decide +kernel
theorem d_Li_canHold_15 : decode b_Li_canHold 15 = .ok (.iload_n 3, 1) := by decide +kernel
theorem d_Li_canHold_16 : decode b_Li_canHold 16 = .ok (.invokevirtual 39, 3) := by decide +kernel
theorem d_Li_canHold_19 : decode b_Li_canHold 19 = .ok (.iadd, 1) := by decide +kernel
theorem d_Li_canHold_20 : decode b_Li_canHold 20 = .ok (.istore_n 2, 1) := by decide +kernel
theorem d_Li_canHold_21 : decode b_Li_canHold 21 = .ok (.iinc 3 1, 3) := by decide +kernel
theorem d_Li_canHold_24 : decode b_Li_canHold 24 = .ok (.goto (-20), 3) := by decide +kernel
theorem d_Li_canHold_27 : decode b_Li_canHold 27 = .ok (.aload_n 0, 1) := by decide +kernel
theorem d_Li_canHold_28 : decode b_Li_canHold 28 = .ok (.iload_n 2, 1) := by decide +kernel
theorem d_Li_canHold_29 : decode b_Li_canHold 29 = .ok (.invokevirtual 43, 3) := by decide +kernel
theorem d_Li_canHold_32 : decode b_Li_canHold 32 = .ok (.ireturn, 1) := by decide +kernel
abbrev b_Li_kindest : ByteArray := prog_4_method_12_code
def y_Li_kindest : MethodName := ⟨RLi, "kindest", "(LOrderBounds$Columns;I)I"⟩
theorem k_Li_kindest : Cond.code y_Li_kindest b_Li_kindest 4 (some .int) ∈ tt := (tt1 212 rfl rfl)
theorem i_Li_kindest : Cond.instanceMethod y_Li_kindest ∈ tt := (tt1 211 rfl rfl)
theorem l_Li_kindest : Cond.selects RLi y_Li_kindest y_Li_kindest ∈ tt := (tt0 0 rfl rfl)
theorem d_Li_kindest_0 : decode b_Li_kindest 0 = .ok (.aload_n 0, 1) := by decide +kernel
theorem d_Li_kindest_1 : decode b_Li_kindest 1 = .ok (.getfield 9, 3) := by decide +kernel
theorem d_Li_kindest_4 : decode b_Li_kindest 4 = .ok (.iload_n 2, 1) := by decide +kernel
theorem d_Li_kindest_5 : decode b_Li_kindest 5 = .ok (.iaload, 1) := by decide +kernel
theorem d_Li_kindest_6 : decode b_Li_kindest 6 = .ok (.aload_n 1, 1) := by decide +kernel
theorem d_Li_kindest_7 : decode b_Li_kindest 7 = .ok (.iload_n 2, 1) := by decide +kernel
theorem d_Li_kindest_8 : decode b_Li_kindest 8 = .ok (.invokevirtual 47, 3) := by decide +kernel
theorem d_Li_kindest_11 : decode b_Li_kindest 11 = .ok (.imul, 1) := by decide +kernel
theorem d_Li_kindest_12 : decode b_Li_kindest 12 = .ok (.istore_n 3, 1) := by decide +kernel
theorem d_Li_kindest_13 : decode b_Li_kindest 13 = .ok (.aload_n 0, 1) := by decide +kernel
theorem d_Li_kindest_14 : decode b_Li_kindest 14 = .ok (.getfield 15, 3) := by decide +kernel
theorem d_Li_kindest_17 : decode b_Li_kindest 17 = .ok (.ifCond .ne 11, 3) := by decide +kernel
theorem d_Li_kindest_20 : decode b_Li_kindest 20 = .ok (.iload_n 3, 1) := by decide +kernel
theorem d_Li_kindest_21 : decode b_Li_kindest 21 = .ok (.iconst 0, 1) := by decide +kernel
theorem d_Li_kindest_22 : decode b_Li_kindest 22 = .ok (.invokestatic 51, 3) := by decide +kernel
theorem d_Li_kindest_25 : decode b_Li_kindest 25 = .ok (.goto 8, 3) := by decide +kernel
theorem d_Li_kindest_28 : decode b_Li_kindest 28 = .ok (.iload_n 3, 1) := by decide +kernel
theorem d_Li_kindest_29 : decode b_Li_kindest 29 = .ok (.iconst 0, 1) := by decide +kernel
theorem d_Li_kindest_30 : decode b_Li_kindest 30 = .ok (.invokestatic 57, 3) := by decide +kernel
theorem d_Li_kindest_33 : decode b_Li_kindest 33 = .ok (.ireturn, 1) := by decide +kernel
abbrev b_Li_beginSums : ByteArray := prog_4_method_13_code
def y_Li_beginSums : MethodName := ⟨RLi, "beginSums", "(LOrderBounds$Columns;)V"⟩
theorem k_Li_beginSums : Cond.code y_Li_beginSums b_Li_beginSums 4 none ∈ tt := (tt2 111 rfl rfl)
theorem i_Li_beginSums : Cond.instanceMethod y_Li_beginSums ∈ tt := (tt2 109 rfl rfl)
theorem l_Li_beginSums : Cond.selects RLi y_Li_beginSums y_Li_beginSums ∈ tt := (tt2 110 rfl rfl)
theorem d_Li_beginSums_0 : decode b_Li_beginSums 0 = .ok (.aload_n 1, 1) := by decide +kernel
theorem d_Li_beginSums_1 : decode b_Li_beginSums 1 = .ok (.invokevirtual 33, 3) := by decide +kernel
theorem d_Li_beginSums_4 : decode b_Li_beginSums 4 = .ok (.istore_n 2, 1) := by decide +kernel
theorem d_Li_beginSums_5 : decode b_Li_beginSums 5 = .ok (.aload_n 0, 1) := by decide +kernel
theorem d_Li_beginSums_6 : decode b_Li_beginSums 6 = .ok (.getfield 28, 3) := by decide +kernel
theorem d_Li_beginSums_9 : decode b_Li_beginSums 9 = .ok (.iload_n 2, 1) := by decide +kernel
theorem d_Li_beginSums_10 : decode b_Li_beginSums 10 = .ok (.iconst 0, 1) := by decide +kernel
theorem d_Li_beginSums_11 : decode b_Li_beginSums 11 = .ok (.iastore, 1) := by decide +kernel
theorem d_Li_beginSums_12 : decode b_Li_beginSums 12 = .ok (.iload_n 2, 1) := by decide +kernel
theorem d_Li_beginSums_13 : decode b_Li_beginSums 13 = .ok (.iconst 1, 1) := by decide +kernel
theorem d_Li_beginSums_14 : decode b_Li_beginSums 14 = .ok (.isub, 1) := by decide +kernel
theorem d_Li_beginSums_15 : decode b_Li_beginSums 15 = .ok (.istore_n 3, 1) := by decide +kernel
theorem d_Li_beginSums_16 : decode b_Li_beginSums 16 = .ok (.iload_n 3, 1) := by decide +kernel
theorem d_Li_beginSums_17 : decode b_Li_beginSums 17 = .ok (.ifCond .lt 30, 3) := by decide +kernel
theorem d_Li_beginSums_20 : decode b_Li_beginSums 20 = .ok (.aload_n 0, 1) := by decide +kernel
theorem d_Li_beginSums_21 : decode b_Li_beginSums 21 = .ok (.getfield 28, 3) := by decide +kernel
theorem d_Li_beginSums_24 : decode b_Li_beginSums 24 = .ok (.iload_n 3, 1) := by decide +kernel
theorem d_Li_beginSums_25 : decode b_Li_beginSums 25 = .ok (.aload_n 0, 1) := by decide +kernel
theorem d_Li_beginSums_26 : decode b_Li_beginSums 26 = .ok (.getfield 28, 3) := by decide +kernel
theorem d_Li_beginSums_29 : decode b_Li_beginSums 29 = .ok (.iload_n 3, 1) := by decide +kernel
theorem d_Li_beginSums_30 : decode b_Li_beginSums 30 = .ok (.iconst 1, 1) := by decide +kernel
theorem d_Li_beginSums_31 : decode b_Li_beginSums 31 = .ok (.iadd, 1) := by decide +kernel
theorem d_Li_beginSums_32 : decode b_Li_beginSums 32 = .ok (.iaload, 1) := by decide +kernel
theorem d_Li_beginSums_33 : decode b_Li_beginSums 33 = .ok (.aload_n 0, 1) := by decide +kernel
theorem d_Li_beginSums_34 : decode b_Li_beginSums 34 = .ok (.aload_n 1, 1) := by decide +kernel
theorem d_Li_beginSums_35 : decode b_Li_beginSums 35 = .ok (.iload_n 3, 1) := by decide +kernel
theorem d_Li_beginSums_36 : decode b_Li_beginSums 36 = .ok (.invokevirtual 39, 3) := by decide +kernel
theorem d_Li_beginSums_39 : decode b_Li_beginSums 39 = .ok (.iadd, 1) := by decide +kernel
theorem d_Li_beginSums_40 : decode b_Li_beginSums 40 = .ok (.iastore, 1) := by decide +kernel
theorem d_Li_beginSums_41 : decode b_Li_beginSums 41 = .ok (.iinc 3 (-1), 3) := by decide +kernel
theorem d_Li_beginSums_44 : decode b_Li_beginSums 44 = .ok (.goto (-28), 3) := by decide +kernel
theorem d_Li_beginSums_47 : decode b_Li_beginSums 47 = .ok (.aload_n 0, 1) := by decide +kernel
theorem d_Li_beginSums_48 : decode b_Li_beginSums 48 = .ok (.getfield 25, 3) := by decide +kernel
theorem d_Li_beginSums_51 : decode b_Li_beginSums 51 = .ok (.iconst 0, 1) := by decide +kernel
theorem d_Li_beginSums_52 : decode b_Li_beginSums 52 = .ok (.iconst 0, 1) := by decide +kernel
theorem d_Li_beginSums_53 : decode b_Li_beginSums 53 = .ok (.iastore, 1) := by decide +kernel
theorem d_Li_beginSums_54 : decode b_Li_beginSums 54 = .ok (.return_, 1) := by decide +kernel
abbrev b_Li_stillHolds : ByteArray := prog_4_method_14_code
def y_Li_stillHolds : MethodName := ⟨RLi, "stillHolds", "(II)Z"⟩
theorem k_Li_stillHolds : Cond.code y_Li_stillHolds b_Li_stillHolds 4 (some .boolean) ∈ tt := (tt3 20 rfl rfl)
theorem i_Li_stillHolds : Cond.instanceMethod y_Li_stillHolds ∈ tt := (tt3 18 rfl rfl)
theorem l_Li_stillHolds : Cond.selects RLi y_Li_stillHolds y_Li_stillHolds ∈ tt := (tt3 19 rfl rfl)
theorem d_Li_stillHolds_0 : decode b_Li_stillHolds 0 = .ok (.aload_n 0, 1) := by decide +kernel
theorem d_Li_stillHolds_1 : decode b_Li_stillHolds 1 = .ok (.getfield 25, 3) := by decide +kernel
theorem d_Li_stillHolds_4 : decode b_Li_stillHolds 4 = .ok (.iload_n 1, 1) := by decide +kernel
theorem d_Li_stillHolds_5 : decode b_Li_stillHolds 5 = .ok (.iaload, 1) := by decide +kernel
theorem d_Li_stillHolds_6 : decode b_Li_stillHolds 6 = .ok (.aload_n 0, 1) := by decide +kernel
theorem d_Li_stillHolds_7 : decode b_Li_stillHolds 7 = .ok (.getfield 9, 3) := by decide +kernel
theorem d_Li_stillHolds_10 : decode b_Li_stillHolds 10 = .ok (.iload_n 1, 1) := by decide +kernel
theorem d_Li_stillHolds_11 : decode b_Li_stillHolds 11 = .ok (.iaload, 1) := by decide +kernel
theorem d_Li_stillHolds_12 : decode b_Li_stillHolds 12 = .ok (.iload_n 2, 1) := by decide +kernel
theorem d_Li_stillHolds_13 : decode b_Li_stillHolds 13 = .ok (.imul, 1) := by decide +kernel
theorem d_Li_stillHolds_14 : decode b_Li_stillHolds 14 = .ok (.iadd, 1) := by decide +kernel
theorem d_Li_stillHolds_15 : decode b_Li_stillHolds 15 = .ok (.istore_n 3, 1) := by decide +kernel
theorem d_Li_stillHolds_16 : decode b_Li_stillHolds 16 = .ok (.aload_n 0, 1) := by decide +kernel
theorem d_Li_stillHolds_17 : decode b_Li_stillHolds 17 = .ok (.getfield 25, 3) := by decide +kernel
theorem d_Li_stillHolds_20 : decode b_Li_stillHolds 20 = .ok (.iload_n 1, 1) := by decide +kernel
theorem d_Li_stillHolds_21 : decode b_Li_stillHolds 21 = .ok (.iconst 1, 1) := by decide +kernel
theorem d_Li_stillHolds_22 : decode b_Li_stillHolds 22 = .ok (.iadd, 1) := by decide +kernel
theorem d_Li_stillHolds_23 : decode b_Li_stillHolds 23 = .ok (.iload_n 3, 1) := by decide +kernel
theorem d_Li_stillHolds_24 : decode b_Li_stillHolds 24 = .ok (.iastore, 1) := by decide +kernel
theorem d_Li_stillHolds_25 : decode b_Li_stillHolds 25 = .ok (.aload_n 0, 1) := by decide +kernel
theorem d_Li_stillHolds_26 : decode b_Li_stillHolds 26 = .ok (.iload_n 3, 1) := by decide +kernel
theorem d_Li_stillHolds_27 : decode b_Li_stillHolds 27 = .ok (.aload_n 0, 1) := by decide +kernel
theorem d_Li_stillHolds_28 : decode b_Li_stillHolds 28 = .ok (.getfield 28, 3) := by decide +kernel
theorem d_Li_stillHolds_31 : decode b_Li_stillHolds 31 = .ok (.iload_n 1, 1) := by decide +kernel
theorem d_Li_stillHolds_32 : decode b_Li_stillHolds 32 = .ok (.iconst 1, 1) := by decide +kernel
theorem d_Li_stillHolds_33 : decode b_Li_stillHolds 33 = .ok (.iadd, 1) := by decide +kernel
theorem d_Li_stillHolds_34 : decode b_Li_stillHolds 34 = .ok (.iaload, 1) := by decide +kernel
theorem d_Li_stillHolds_35 : decode b_Li_stillHolds 35 = .ok (.iadd, 1) := by decide +kernel
theorem d_Li_stillHolds_36 : decode b_Li_stillHolds 36 = .ok (.invokevirtual 43, 3) := by decide +kernel
theorem d_Li_stillHolds_39 : decode b_Li_stillHolds 39 = .ok (.ireturn, 1) := by decide +kernel
abbrev b_Ls_init : ByteArray := prog_5_method_1_code
def y_Ls_init : MethodName := ⟨RLs, "<init>", "()V"⟩
theorem k_Ls_init : Cond.code y_Ls_init b_Ls_init 2 none ∈ tt := (tt1 46 rfl rfl)
theorem i_Ls_init : Cond.instanceMethod y_Ls_init ∈ tt := (tt1 45 rfl rfl)
theorem d_Ls_init_0 : decode b_Ls_init 0 = .ok (.aload_n 0, 1) := by decide +kernel
theorem d_Ls_init_1 : decode b_Ls_init 1 = .ok (.invokespecial 3, 3) := by decide +kernel
theorem d_Ls_init_4 : decode b_Ls_init 4 = .ok (.aload_n 0, 1) := by decide +kernel
theorem d_Ls_init_5 : decode b_Ls_init 5 = .ok (.iconst 4, 1) := by decide +kernel
theorem d_Ls_init_6 : decode b_Ls_init 6 = .ok (.anewarray 9, 3) := by decide +kernel
theorem d_Ls_init_9 : decode b_Ls_init 9 = .ok (.putfield 11, 3) := by decide +kernel
theorem d_Ls_init_12 : decode b_Ls_init 12 = .ok (.aload_n 0, 1) := by decide +kernel
theorem d_Ls_init_13 : decode b_Ls_init 13 = .ok (.iconst 4, 1) := by decide +kernel
theorem d_Ls_init_14 : decode b_Ls_init 14 = .ok (.anewarray 9, 3) := by decide +kernel
theorem d_Ls_init_17 : decode b_Ls_init 17 = .ok (.putfield 17, 3) := by decide +kernel
theorem d_Ls_init_20 : decode b_Ls_init 20 = .ok (.aload_n 0, 1) := by decide +kernel
theorem d_Ls_init_21 : decode b_Ls_init 21 = .ok (.iconst 0, 1) := by decide +kernel
theorem d_Ls_init_22 : decode b_Ls_init 22 = .ok (.putfield 20, 3) := by decide +kernel
theorem d_Ls_init_25 : decode b_Ls_init 25 = .ok (.aload_n 0, 1) := by decide +kernel
theorem d_Ls_init_26 : decode b_Ls_init 26 = .ok (.iconst 0, 1) := by decide +kernel
theorem d_Ls_init_27 : decode b_Ls_init 27 = .ok (.putfield 24, 3) := by decide +kernel
theorem d_Ls_init_30 : decode b_Ls_init 30 = .ok (.iconst 0, 1) := by decide +kernel
theorem d_Ls_init_31 : decode b_Ls_init 31 = .ok (.istore_n 1, 1) := by decide +kernel
theorem d_Ls_init_32 : decode b_Ls_init 32 = .ok (.iload_n 1, 1) := by decide +kernel
theorem d_Ls_init_33 : decode b_Ls_init 33 = .ok (.iconst 4, 1) := by decide +kernel
theorem d_Ls_init_34 : decode b_Ls_init 34 = .ok (.if_icmp .ge 22, 3) := by decide +kernel
theorem d_Ls_init_37 : decode b_Ls_init 37 = .ok (.aload_n 0, 1) := by decide +kernel
theorem d_Ls_init_38 : decode b_Ls_init 38 = .ok (.getfield 11, 3) := by decide +kernel
theorem d_Ls_init_41 : decode b_Ls_init 41 = .ok (.iload_n 1, 1) := by decide +kernel
theorem d_Ls_init_42 : decode b_Ls_init 42 = .ok (.new 9, 3) := by decide +kernel
theorem d_Ls_init_45 : decode b_Ls_init 45 = .ok (.dup, 1) := by decide +kernel
theorem d_Ls_init_46 : decode b_Ls_init 46 = .ok (.invokespecial 27, 3) := by decide +kernel
theorem d_Ls_init_49 : decode b_Ls_init 49 = .ok (.aastore, 1) := by decide +kernel
theorem d_Ls_init_50 : decode b_Ls_init 50 = .ok (.iinc 1 1, 3) := by decide +kernel
theorem d_Ls_init_53 : decode b_Ls_init 53 = .ok (.goto (-21), 3) := by decide +kernel
theorem d_Ls_init_56 : decode b_Ls_init 56 = .ok (.iconst 0, 1) := by decide +kernel
theorem d_Ls_init_57 : decode b_Ls_init 57 = .ok (.istore_n 1, 1) := by decide +kernel
theorem d_Ls_init_58 : decode b_Ls_init 58 = .ok (.iload_n 1, 1) := by decide +kernel
theorem d_Ls_init_59 : decode b_Ls_init 59 = .ok (.iconst 4, 1) := by decide +kernel
theorem d_Ls_init_60 : decode b_Ls_init 60 = .ok (.if_icmp .ge 22, 3) := by decide +kernel
theorem d_Ls_init_63 : decode b_Ls_init 63 = .ok (.aload_n 0, 1) := by decide +kernel
theorem d_Ls_init_64 : decode b_Ls_init 64 = .ok (.getfield 17, 3) := by decide +kernel
theorem d_Ls_init_67 : decode b_Ls_init 67 = .ok (.iload_n 1, 1) := by decide +kernel
theorem d_Ls_init_68 : decode b_Ls_init 68 = .ok (.new 9, 3) := by decide +kernel
theorem d_Ls_init_71 : decode b_Ls_init 71 = .ok (.dup, 1) := by decide +kernel
theorem d_Ls_init_72 : decode b_Ls_init 72 = .ok (.invokespecial 27, 3) := by decide +kernel
theorem d_Ls_init_75 : decode b_Ls_init 75 = .ok (.aastore, 1) := by decide +kernel
theorem d_Ls_init_76 : decode b_Ls_init 76 = .ok (.iinc 1 1, 3) := by decide +kernel
theorem d_Ls_init_79 : decode b_Ls_init 79 = .ok (.goto (-21), 3) := by decide +kernel
theorem d_Ls_init_82 : decode b_Ls_init 82 = .ok (.return_, 1) := by decide +kernel
abbrev b_Ls_rowCount : ByteArray := prog_5_method_2_code
def y_Ls_rowCount : MethodName := ⟨RLs, "rowCount", "()I"⟩
theorem k_Ls_rowCount : Cond.code y_Ls_rowCount b_Ls_rowCount 1 (some .int) ∈ tt := (tt2 127 rfl rfl)
theorem i_Ls_rowCount : Cond.instanceMethod y_Ls_rowCount ∈ tt := (tt2 125 rfl rfl)
theorem l_Ls_rowCount : Cond.selects RLs y_Ls_rowCount y_Ls_rowCount ∈ tt := (tt2 126 rfl rfl)
theorem d_Ls_rowCount_0 : decode b_Ls_rowCount 0 = .ok (.aload_n 0, 1) := by decide +kernel
theorem d_Ls_rowCount_1 : decode b_Ls_rowCount 1 = .ok (.getfield 20, 3) := by decide +kernel
theorem d_Ls_rowCount_4 : decode b_Ls_rowCount 4 = .ok (.ireturn, 1) := by decide +kernel
abbrev b_Ls_cutCount : ByteArray := prog_5_method_3_code
def y_Ls_cutCount : MethodName := ⟨RLs, "cutCount", "()I"⟩
theorem k_Ls_cutCount : Cond.code y_Ls_cutCount b_Ls_cutCount 1 (some .int) ∈ tt := (tt2 210 rfl rfl)
theorem i_Ls_cutCount : Cond.instanceMethod y_Ls_cutCount ∈ tt := (tt2 208 rfl rfl)
theorem l_Ls_cutCount : Cond.selects RLs y_Ls_cutCount y_Ls_cutCount ∈ tt := (tt2 209 rfl rfl)
theorem d_Ls_cutCount_0 : decode b_Ls_cutCount 0 = .ok (.aload_n 0, 1) := by decide +kernel
theorem d_Ls_cutCount_1 : decode b_Ls_cutCount 1 = .ok (.getfield 24, 3) := by decide +kernel
theorem d_Ls_cutCount_4 : decode b_Ls_cutCount 4 = .ok (.ireturn, 1) := by decide +kernel
abbrev b_Ls_count : ByteArray := prog_5_method_4_code
def y_Ls_count : MethodName := ⟨RLs, "count", "()I"⟩
theorem k_Ls_count : Cond.code y_Ls_count b_Ls_count 1 (some .int) ∈ tt := (tt1 161 rfl rfl)
theorem i_Ls_count : Cond.instanceMethod y_Ls_count ∈ tt := (tt1 159 rfl rfl)
theorem l_Ls_count : Cond.selects RLs y_Ls_count y_Ls_count ∈ tt := (tt1 160 rfl rfl)
theorem d_Ls_count_0 : decode b_Ls_count 0 = .ok (.aload_n 0, 1) := by decide +kernel
theorem d_Ls_count_1 : decode b_Ls_count 1 = .ok (.getfield 20, 3) := by decide +kernel
theorem d_Ls_count_4 : decode b_Ls_count 4 = .ok (.aload_n 0, 1) := by decide +kernel
theorem d_Ls_count_5 : decode b_Ls_count 5 = .ok (.getfield 24, 3) := by decide +kernel
theorem d_Ls_count_8 : decode b_Ls_count 8 = .ok (.iadd, 1) := by decide +kernel
theorem d_Ls_count_9 : decode b_Ls_count 9 = .ok (.ireturn, 1) := by decide +kernel
abbrev b_Ls_at : ByteArray := prog_5_method_5_code
def y_Ls_at : MethodName := ⟨RLs, "at", "(I)LOrderBounds$Line;"⟩
theorem k_Ls_at : Cond.code y_Ls_at b_Ls_at 2 (some (.object "OrderBounds$Line")) ∈ tt := (tt1 165 rfl rfl)
theorem i_Ls_at : Cond.instanceMethod y_Ls_at ∈ tt := (tt1 163 rfl rfl)
theorem l_Ls_at : Cond.selects RLs y_Ls_at y_Ls_at ∈ tt := (tt1 164 rfl rfl)
theorem d_Ls_at_0 : decode b_Ls_at 0 = .ok (.iload_n 1, 1) := by decide +kernel
theorem d_Ls_at_1 : decode b_Ls_at 1 = .ok (.aload_n 0, 1) := by decide +kernel
theorem d_Ls_at_2 : decode b_Ls_at 2 = .ok (.getfield 20, 3) := by decide +kernel
theorem d_Ls_at_5 : decode b_Ls_at 5 = .ok (.if_icmp .ge 12, 3) := by decide +kernel
theorem d_Ls_at_8 : decode b_Ls_at 8 = .ok (.aload_n 0, 1) := by decide +kernel
theorem d_Ls_at_9 : decode b_Ls_at 9 = .ok (.getfield 11, 3) := by decide +kernel
theorem d_Ls_at_12 : decode b_Ls_at 12 = .ok (.iload_n 1, 1) := by decide +kernel
theorem d_Ls_at_13 : decode b_Ls_at 13 = .ok (.aaload, 1) := by decide +kernel
theorem d_Ls_at_14 : decode b_Ls_at 14 = .ok (.goto 14, 3) := by decide +kernel
theorem d_Ls_at_17 : decode b_Ls_at 17 = .ok (.aload_n 0, 1) := by decide +kernel
theorem d_Ls_at_18 : decode b_Ls_at 18 = .ok (.getfield 17, 3) := by decide +kernel
theorem d_Ls_at_21 : decode b_Ls_at 21 = .ok (.iload_n 1, 1) := by decide +kernel
theorem d_Ls_at_22 : decode b_Ls_at 22 = .ok (.aload_n 0, 1) := by decide +kernel
theorem d_Ls_at_23 : decode b_Ls_at 23 = .ok (.getfield 20, 3) := by decide +kernel
theorem d_Ls_at_26 : decode b_Ls_at 26 = .ok (.isub, 1) := by decide +kernel
theorem d_Ls_at_27 : decode b_Ls_at 27 = .ok (.aaload, 1) := by decide +kernel
theorem d_Ls_at_28 : decode b_Ls_at 28 = .ok (.areturn, 1) := by decide +kernel
abbrev b_Ls_addRow : ByteArray := prog_5_method_6_code
def y_Ls_addRow : MethodName := ⟨RLs, "addRow", "(II)I"⟩
theorem k_Ls_addRow : Cond.code y_Ls_addRow b_Ls_addRow 4 (some .int) ∈ tt := (tt2 132 rfl rfl)
theorem i_Ls_addRow : Cond.instanceMethod y_Ls_addRow ∈ tt := (tt2 130 rfl rfl)
theorem l_Ls_addRow : Cond.selects RLs y_Ls_addRow y_Ls_addRow ∈ tt := (tt2 131 rfl rfl)
theorem d_Ls_addRow_0 : decode b_Ls_addRow 0 = .ok (.aload_n 0, 1) := by decide +kernel
theorem d_Ls_addRow_1 : decode b_Ls_addRow 1 = .ok (.getfield 11, 3) := by decide +kernel
theorem d_Ls_addRow_4 : decode b_Ls_addRow 4 = .ok (.aload_n 0, 1) := by decide +kernel
theorem d_Ls_addRow_5 : decode b_Ls_addRow 5 = .ok (.getfield 20, 3) := by decide +kernel
theorem d_Ls_addRow_8 : decode b_Ls_addRow 8 = .ok (.aaload, 1) := by decide +kernel
theorem d_Ls_addRow_9 : decode b_Ls_addRow 9 = .ok (.astore_n 3, 1) := by decide +kernel
theorem d_Ls_addRow_10 : decode b_Ls_addRow 10 = .ok (.aload_n 3, 1) := by decide +kernel
theorem d_Ls_addRow_11 : decode b_Ls_addRow 11 = .ok (.iload_n 1, 1) := by decide +kernel
theorem d_Ls_addRow_12 : decode b_Ls_addRow 12 = .ok (.invokevirtual 28, 3) := by decide +kernel
theorem d_Ls_addRow_15 : decode b_Ls_addRow 15 = .ok (.aload_n 3, 1) := by decide +kernel
theorem d_Ls_addRow_16 : decode b_Ls_addRow 16 = .ok (.iload_n 2, 1) := by decide +kernel
theorem d_Ls_addRow_17 : decode b_Ls_addRow 17 = .ok (.invokevirtual 32, 3) := by decide +kernel
theorem d_Ls_addRow_20 : decode b_Ls_addRow 20 = .ok (.aload_n 0, 1) := by decide +kernel
theorem d_Ls_addRow_21 : decode b_Ls_addRow 21 = .ok (.dup, 1) := by decide +kernel
theorem d_Ls_addRow_22 : decode b_Ls_addRow 22 = .ok (.getfield 20, 3) := by decide +kernel
theorem d_Ls_addRow_25 : decode b_Ls_addRow 25 = .ok (.iconst 1, 1) := by decide +kernel
theorem d_Ls_addRow_26 : decode b_Ls_addRow 26 = .ok (.iadd, 1) := by decide +kernel
theorem d_Ls_addRow_27 : decode b_Ls_addRow 27 = .ok (.putfield 20, 3) := by decide +kernel
theorem d_Ls_addRow_30 : decode b_Ls_addRow 30 = .ok (.aload_n 0, 1) := by decide +kernel
theorem d_Ls_addRow_31 : decode b_Ls_addRow 31 = .ok (.invokevirtual 35, 3) := by decide +kernel
theorem d_Ls_addRow_34 : decode b_Ls_addRow 34 = .ok (.aload_n 0, 1) := by decide +kernel
theorem d_Ls_addRow_35 : decode b_Ls_addRow 35 = .ok (.getfield 20, 3) := by decide +kernel
theorem d_Ls_addRow_38 : decode b_Ls_addRow 38 = .ok (.iconst 1, 1) := by decide +kernel
theorem d_Ls_addRow_39 : decode b_Ls_addRow 39 = .ok (.isub, 1) := by decide +kernel
theorem d_Ls_addRow_40 : decode b_Ls_addRow 40 = .ok (.ireturn, 1) := by decide +kernel
abbrev b_Ls_addCut : ByteArray := prog_5_method_7_code
def y_Ls_addCut : MethodName := ⟨RLs, "addCut", "(III)I"⟩
theorem k_Ls_addCut : Cond.code y_Ls_addCut b_Ls_addCut 5 (some .int) ∈ tt := (tt2 221 rfl rfl)
theorem i_Ls_addCut : Cond.instanceMethod y_Ls_addCut ∈ tt := (tt2 219 rfl rfl)
theorem l_Ls_addCut : Cond.selects RLs y_Ls_addCut y_Ls_addCut ∈ tt := (tt2 220 rfl rfl)
theorem d_Ls_addCut_0 : decode b_Ls_addCut 0 = .ok (.aload_n 0, 1) := by decide +kernel
theorem d_Ls_addCut_1 : decode b_Ls_addCut 1 = .ok (.getfield 17, 3) := by decide +kernel
theorem d_Ls_addCut_4 : decode b_Ls_addCut 4 = .ok (.aload_n 0, 1) := by decide +kernel
theorem d_Ls_addCut_5 : decode b_Ls_addCut 5 = .ok (.getfield 24, 3) := by decide +kernel
theorem d_Ls_addCut_8 : decode b_Ls_addCut 8 = .ok (.aaload, 1) := by decide +kernel
theorem d_Ls_addCut_9 : decode b_Ls_addCut 9 = .ok (.astore 4, 2) := by decide +kernel
theorem d_Ls_addCut_11 : decode b_Ls_addCut 11 = .ok (.aload 4, 2) := by decide +kernel
theorem d_Ls_addCut_13 : decode b_Ls_addCut 13 = .ok (.iload_n 3, 1) := by decide +kernel
theorem d_Ls_addCut_14 : decode b_Ls_addCut 14 = .ok (.invokevirtual 32, 3) := by decide +kernel
theorem d_Ls_addCut_17 : decode b_Ls_addCut 17 = .ok (.aload 4, 2) := by decide +kernel
theorem d_Ls_addCut_19 : decode b_Ls_addCut 19 = .ok (.iload_n 1, 1) := by decide +kernel
theorem d_Ls_addCut_20 : decode b_Ls_addCut 20 = .ok (.iconst 1, 1) := by decide +kernel
theorem d_Ls_addCut_21 : decode b_Ls_addCut 21 = .ok (.invokevirtual 38, 3) := by decide +kernel
theorem d_Ls_addCut_24 : decode b_Ls_addCut 24 = .ok (.aload 4, 2) := by decide +kernel
theorem d_Ls_addCut_26 : decode b_Ls_addCut 26 = .ok (.iload_n 2, 1) := by decide +kernel
theorem d_Ls_addCut_27 : decode b_Ls_addCut 27 = .ok (.iconst 1, 1) := by decide +kernel
theorem d_Ls_addCut_28 : decode b_Ls_addCut 28 = .ok (.invokevirtual 38, 3) := by decide +kernel
theorem d_Ls_addCut_31 : decode b_Ls_addCut 31 = .ok (.aload_n 0, 1) := by decide +kernel
theorem d_Ls_addCut_32 : decode b_Ls_addCut 32 = .ok (.dup, 1) := by decide +kernel
theorem d_Ls_addCut_33 : decode b_Ls_addCut 33 = .ok (.getfield 24, 3) := by decide +kernel
theorem d_Ls_addCut_36 : decode b_Ls_addCut 36 = .ok (.iconst 1, 1) := by decide +kernel
theorem d_Ls_addCut_37 : decode b_Ls_addCut 37 = .ok (.iadd, 1) := by decide +kernel
theorem d_Ls_addCut_38 : decode b_Ls_addCut 38 = .ok (.putfield 24, 3) := by decide +kernel
theorem d_Ls_addCut_41 : decode b_Ls_addCut 41 = .ok (.aload_n 0, 1) := by decide +kernel
theorem d_Ls_addCut_42 : decode b_Ls_addCut 42 = .ok (.invokevirtual 35, 3) := by decide +kernel
theorem d_Ls_addCut_45 : decode b_Ls_addCut 45 = .ok (.aload_n 0, 1) := by decide +kernel
theorem d_Ls_addCut_46 : decode b_Ls_addCut 46 = .ok (.getfield 24, 3) := by decide +kernel
theorem d_Ls_addCut_49 : decode b_Ls_addCut 49 = .ok (.ireturn, 1) := by decide +kernel
abbrev b_Ls_hasCut : ByteArray := prog_5_method_8_code
def y_Ls_hasCut : MethodName := ⟨RLs, "hasCut", "(II)Z"⟩
theorem k_Ls_hasCut : Cond.code y_Ls_hasCut b_Ls_hasCut 4 (some .boolean) ∈ tt := (tt2 215 rfl rfl)
theorem i_Ls_hasCut : Cond.instanceMethod y_Ls_hasCut ∈ tt := (tt2 213 rfl rfl)
theorem l_Ls_hasCut : Cond.selects RLs y_Ls_hasCut y_Ls_hasCut ∈ tt := (tt2 214 rfl rfl)
theorem d_Ls_hasCut_0 : decode b_Ls_hasCut 0 = .ok (.iconst 0, 1) := by decide +kernel
theorem d_Ls_hasCut_1 : decode b_Ls_hasCut 1 = .ok (.istore_n 3, 1) := by decide +kernel
theorem d_Ls_hasCut_2 : decode b_Ls_hasCut 2 = .ok (.iload_n 3, 1) := by decide +kernel
theorem d_Ls_hasCut_3 : decode b_Ls_hasCut 3 = .ok (.aload_n 0, 1) := by decide +kernel
theorem d_Ls_hasCut_4 : decode b_Ls_hasCut 4 = .ok (.getfield 24, 3) := by decide +kernel
theorem d_Ls_hasCut_7 : decode b_Ls_hasCut 7 = .ok (.if_icmp .ge 39, 3) := by decide +kernel
theorem d_Ls_hasCut_10 : decode b_Ls_hasCut 10 = .ok (.aload_n 0, 1) := by decide +kernel
theorem d_Ls_hasCut_11 : decode b_Ls_hasCut 11 = .ok (.getfield 17, 3) := by decide +kernel
theorem d_Ls_hasCut_14 : decode b_Ls_hasCut 14 = .ok (.iload_n 3, 1) := by decide +kernel
theorem d_Ls_hasCut_15 : decode b_Ls_hasCut 15 = .ok (.aaload, 1) := by decide +kernel
theorem d_Ls_hasCut_16 : decode b_Ls_hasCut 16 = .ok (.iload_n 1, 1) := by decide +kernel
theorem d_Ls_hasCut_17 : decode b_Ls_hasCut 17 = .ok (.invokevirtual 42, 3) := by decide +kernel
theorem d_Ls_hasCut_20 : decode b_Ls_hasCut 20 = .ok (.iconst 1, 1) := by decide +kernel
theorem d_Ls_hasCut_21 : decode b_Ls_hasCut 21 = .ok (.if_icmp .ne 19, 3) := by decide +kernel
theorem d_Ls_hasCut_24 : decode b_Ls_hasCut 24 = .ok (.aload_n 0, 1) := by decide +kernel
theorem d_Ls_hasCut_25 : decode b_Ls_hasCut 25 = .ok (.getfield 17, 3) := by decide +kernel
theorem d_Ls_hasCut_28 : decode b_Ls_hasCut 28 = .ok (.iload_n 3, 1) := by decide +kernel
theorem d_Ls_hasCut_29 : decode b_Ls_hasCut 29 = .ok (.aaload, 1) := by decide +kernel
theorem d_Ls_hasCut_30 : decode b_Ls_hasCut 30 = .ok (.iload_n 2, 1) := by decide +kernel
theorem d_Ls_hasCut_31 : decode b_Ls_hasCut 31 = .ok (.invokevirtual 42, 3) := by decide +kernel
theorem d_Ls_hasCut_34 : decode b_Ls_hasCut 34 = .ok (.iconst 1, 1) := by decide +kernel
theorem d_Ls_hasCut_35 : decode b_Ls_hasCut 35 = .ok (.if_icmp .ne 5, 3) := by decide +kernel
theorem d_Ls_hasCut_38 : decode b_Ls_hasCut 38 = .ok (.iconst 1, 1) := by decide +kernel
theorem d_Ls_hasCut_39 : decode b_Ls_hasCut 39 = .ok (.ireturn, 1) := by decide +kernel
theorem d_Ls_hasCut_40 : decode b_Ls_hasCut 40 = .ok (.iinc 3 1, 3) := by decide +kernel
theorem d_Ls_hasCut_43 : decode b_Ls_hasCut 43 = .ok (.goto (-41), 3) := by decide +kernel
theorem d_Ls_hasCut_46 : decode b_Ls_hasCut 46 = .ok (.iconst 0, 1) := by decide +kernel
theorem d_Ls_hasCut_47 : decode b_Ls_hasCut 47 = .ok (.ireturn, 1) := by decide +kernel
abbrev b_Ls_clearWeights : ByteArray := prog_5_method_9_code
def y_Ls_clearWeights : MethodName := ⟨RLs, "clearWeights", "()V"⟩
theorem k_Ls_clearWeights : Cond.code y_Ls_clearWeights b_Ls_clearWeights 2 none ∈ tt := (tt2 144 rfl rfl)
theorem i_Ls_clearWeights : Cond.instanceMethod y_Ls_clearWeights ∈ tt := (tt2 143 rfl rfl)
theorem l_Ls_clearWeights : Cond.selects RLs y_Ls_clearWeights y_Ls_clearWeights ∈ tt := (tt0 3 rfl rfl)
theorem d_Ls_clearWeights_0 : decode b_Ls_clearWeights 0 = .ok (.iconst 0, 1) := by decide +kernel
theorem d_Ls_clearWeights_1 : decode b_Ls_clearWeights 1 = .ok (.istore_n 1, 1) := by decide +kernel
theorem d_Ls_clearWeights_2 : decode b_Ls_clearWeights 2 = .ok (.iload_n 1, 1) := by decide +kernel
theorem d_Ls_clearWeights_3 : decode b_Ls_clearWeights 3 = .ok (.aload_n 0, 1) := by decide +kernel
theorem d_Ls_clearWeights_4 : decode b_Ls_clearWeights 4 = .ok (.invokevirtual 46, 3) := by decide +kernel
theorem d_Ls_clearWeights_7 : decode b_Ls_clearWeights 7 = .ok (.if_icmp .ge 18, 3) := by decide +kernel
theorem d_Ls_clearWeights_10 : decode b_Ls_clearWeights 10 = .ok (.aload_n 0, 1) := by decide +kernel
theorem d_Ls_clearWeights_11 : decode b_Ls_clearWeights 11 = .ok (.iload_n 1, 1) := by decide +kernel
theorem d_Ls_clearWeights_12 : decode b_Ls_clearWeights 12 = .ok (.invokevirtual 50, 3) := by decide +kernel
theorem d_Ls_clearWeights_15 : decode b_Ls_clearWeights 15 = .ok (.iconst 0, 1) := by decide +kernel
theorem d_Ls_clearWeights_16 : decode b_Ls_clearWeights 16 = .ok (.invokevirtual 54, 3) := by decide +kernel
theorem d_Ls_clearWeights_19 : decode b_Ls_clearWeights 19 = .ok (.iinc 1 1, 3) := by decide +kernel
theorem d_Ls_clearWeights_22 : decode b_Ls_clearWeights 22 = .ok (.goto (-20), 3) := by decide +kernel
theorem d_Ls_clearWeights_25 : decode b_Ls_clearWeights 25 = .ok (.return_, 1) := by decide +kernel
abbrev b_Ls_weightedRights : ByteArray := prog_5_method_10_code
def y_Ls_weightedRights : MethodName := ⟨RLs, "weightedRights", "()J"⟩
theorem k_Ls_weightedRights : Cond.code y_Ls_weightedRights b_Ls_weightedRights 4 (some .long) ∈ tt := (tt1 157 rfl rfl)
theorem i_Ls_weightedRights : Cond.instanceMethod y_Ls_weightedRights ∈ tt := (tt1 155 rfl rfl)
theorem l_Ls_weightedRights : Cond.selects RLs y_Ls_weightedRights y_Ls_weightedRights ∈ tt := (tt1 156 rfl rfl)
theorem d_Ls_weightedRights_0 : decode b_Ls_weightedRights 0 = .ok (.lconst 0, 1) := by decide +kernel
theorem d_Ls_weightedRights_1 : decode b_Ls_weightedRights 1 = .ok (.lstore_n 1, 1) := by decide +kernel
theorem d_Ls_weightedRights_2 : decode b_Ls_weightedRights 2 = .ok (.iconst 0, 1) := by decide +kernel
theorem d_Ls_weightedRights_3 : decode b_Ls_weightedRights 3 = .ok (.istore_n 3, 1) := by decide +kernel
theorem d_Ls_weightedRights_4 : decode b_Ls_weightedRights 4 = .ok (.iload_n 3, 1) := by decide +kernel
theorem d_Ls_weightedRights_5 : decode b_Ls_weightedRights 5 = .ok (.aload_n 0, 1) := by decide +kernel
theorem d_Ls_weightedRights_6 : decode b_Ls_weightedRights 6 = .ok (.invokevirtual 46, 3) := by decide +kernel
theorem d_Ls_weightedRights_9 : decode b_Ls_weightedRights 9 = .ok (.if_icmp .ge 31, 3) := by decide +kernel
theorem d_Ls_weightedRights_12 : decode b_Ls_weightedRights 12 = .ok (.lload_n 1, 1) := by decide +kernel
theorem d_Ls_weightedRights_13 : decode b_Ls_weightedRights 13 = .ok (.aload_n 0, 1) := by decide +kernel
theorem d_Ls_weightedRights_14 : decode b_Ls_weightedRights 14 = .ok (.iload_n 3, 1) := by decide +kernel
theorem d_Ls_weightedRights_15 : decode b_Ls_weightedRights 15 = .ok (.invokevirtual 50, 3) := by decide +kernel
theorem d_Ls_weightedRights_18 : decode b_Ls_weightedRights 18 = .ok (.invokevirtual 57, 3) := by decide +kernel
theorem d_Ls_weightedRights_21 : decode b_Ls_weightedRights 21 = .ok (.i2l, 1) := by decide +kernel
theorem d_Ls_weightedRights_22 : decode b_Ls_weightedRights 22 = .ok (.aload_n 0, 1) := by decide +kernel
theorem d_Ls_weightedRights_23 : decode b_Ls_weightedRights 23 = .ok (.iload_n 3, 1) := by decide +kernel
theorem d_Ls_weightedRights_24 : decode b_Ls_weightedRights 24 = .ok (.invokevirtual 50, 3) := by decide +kernel
theorem d_Ls_weightedRights_27 : decode b_Ls_weightedRights 27 = .ok (.invokevirtual 60, 3) := by decide +kernel
theorem d_Ls_weightedRights_30 : decode b_Ls_weightedRights 30 = .ok (.i2l, 1) := by decide +kernel
theorem d_Ls_weightedRights_31 : decode b_Ls_weightedRights 31 = .ok (.lmul, 1) := by decide +kernel
theorem d_Ls_weightedRights_32 : decode b_Ls_weightedRights 32 = .ok (.ladd, 1) := by decide +kernel
theorem d_Ls_weightedRights_33 : decode b_Ls_weightedRights 33 = .ok (.lstore_n 1, 1) := by decide +kernel
theorem d_Ls_weightedRights_34 : decode b_Ls_weightedRights 34 = .ok (.iinc 3 1, 3) := by decide +kernel
theorem d_Ls_weightedRights_37 : decode b_Ls_weightedRights 37 = .ok (.goto (-33), 3) := by decide +kernel
theorem d_Ls_weightedRights_40 : decode b_Ls_weightedRights 40 = .ok (.lload_n 1, 1) := by decide +kernel
theorem d_Ls_weightedRights_41 : decode b_Ls_weightedRights 41 = .ok (.lreturn, 1) := by decide +kernel
abbrev b_Ls_weightedFactors : ByteArray := prog_5_method_11_code
def y_Ls_weightedFactors : MethodName := ⟨RLs, "weightedFactors", "(I)J"⟩
theorem k_Ls_weightedFactors : Cond.code y_Ls_weightedFactors b_Ls_weightedFactors 5 (some .long) ∈ tt := (tt1 186 rfl rfl)
theorem i_Ls_weightedFactors : Cond.instanceMethod y_Ls_weightedFactors ∈ tt := (tt1 184 rfl rfl)
theorem l_Ls_weightedFactors : Cond.selects RLs y_Ls_weightedFactors y_Ls_weightedFactors ∈ tt := (tt1 185 rfl rfl)
theorem d_Ls_weightedFactors_0 : decode b_Ls_weightedFactors 0 = .ok (.lconst 0, 1) := by decide +kernel
theorem d_Ls_weightedFactors_1 : decode b_Ls_weightedFactors 1 = .ok (.lstore_n 2, 1) := by decide +kernel
theorem d_Ls_weightedFactors_2 : decode b_Ls_weightedFactors 2 = .ok (.iconst 0, 1) := by decide +kernel
theorem d_Ls_weightedFactors_3 : decode b_Ls_weightedFactors 3 = .ok (.istore 4, 2) := by decide +kernel
theorem d_Ls_weightedFactors_5 : decode b_Ls_weightedFactors 5 = .ok (.iload 4, 2) := by decide +kernel
theorem d_Ls_weightedFactors_7 : decode b_Ls_weightedFactors 7 = .ok (.aload_n 0, 1) := by decide +kernel
theorem d_Ls_weightedFactors_8 : decode b_Ls_weightedFactors 8 = .ok (.invokevirtual 46, 3) := by decide +kernel
theorem d_Ls_weightedFactors_11 : decode b_Ls_weightedFactors 11 = .ok (.if_icmp .ge 34, 3) := by decide +kernel
theorem d_Ls_weightedFactors_14 : decode b_Ls_weightedFactors 14 = .ok (.lload_n 2, 1) := by decide +kernel
theorem d_Ls_weightedFactors_15 : decode b_Ls_weightedFactors 15 = .ok (.aload_n 0, 1) := by decide +kernel
theorem d_Ls_weightedFactors_16 : decode b_Ls_weightedFactors 16 = .ok (.iload 4, 2) := by decide +kernel
theorem d_Ls_weightedFactors_18 : decode b_Ls_weightedFactors 18 = .ok (.invokevirtual 50, 3) := by decide +kernel
theorem d_Ls_weightedFactors_21 : decode b_Ls_weightedFactors 21 = .ok (.invokevirtual 57, 3) := by decide +kernel
theorem d_Ls_weightedFactors_24 : decode b_Ls_weightedFactors 24 = .ok (.i2l, 1) := by decide +kernel
theorem d_Ls_weightedFactors_25 : decode b_Ls_weightedFactors 25 = .ok (.aload_n 0, 1) := by decide +kernel
theorem d_Ls_weightedFactors_26 : decode b_Ls_weightedFactors 26 = .ok (.iload 4, 2) := by decide +kernel
theorem d_Ls_weightedFactors_28 : decode b_Ls_weightedFactors 28 = .ok (.invokevirtual 50, 3) := by decide +kernel
theorem d_Ls_weightedFactors_31 : decode b_Ls_weightedFactors 31 = .ok (.iload_n 1, 1) := by decide +kernel
theorem d_Ls_weightedFactors_32 : decode b_Ls_weightedFactors 32 = .ok (.invokevirtual 42, 3) := by decide +kernel
theorem d_Ls_weightedFactors_35 : decode b_Ls_weightedFactors 35 = .ok (.i2l, 1) := by decide +kernel
theorem d_Ls_weightedFactors_36 : decode b_Ls_weightedFactors 36 = .ok (.lmul, 1) := by decide +kernel
theorem d_Ls_weightedFactors_37 : decode b_Ls_weightedFactors 37 = .ok (.ladd, 1) := by decide +kernel
theorem d_Ls_weightedFactors_38 : decode b_Ls_weightedFactors 38 = .ok (.lstore_n 2, 1) := by decide +kernel
theorem d_Ls_weightedFactors_39 : decode b_Ls_weightedFactors 39 = .ok (.iinc 4 1, 3) := by decide +kernel
theorem d_Ls_weightedFactors_42 : decode b_Ls_weightedFactors 42 = .ok (.goto (-37), 3) := by decide +kernel
theorem d_Ls_weightedFactors_45 : decode b_Ls_weightedFactors 45 = .ok (.lload_n 2, 1) := by decide +kernel
theorem d_Ls_weightedFactors_46 : decode b_Ls_weightedFactors 46 = .ok (.lreturn, 1) := by decide +kernel
abbrev b_Ls_beginSums : ByteArray := prog_5_method_12_code
def y_Ls_beginSums : MethodName := ⟨RLs, "beginSums", "(LOrderBounds$Columns;)V"⟩
theorem k_Ls_beginSums : Cond.code y_Ls_beginSums b_Ls_beginSums 3 none ∈ tt := (tt2 107 rfl rfl)
theorem i_Ls_beginSums : Cond.instanceMethod y_Ls_beginSums ∈ tt := (tt2 105 rfl rfl)
theorem l_Ls_beginSums : Cond.selects RLs y_Ls_beginSums y_Ls_beginSums ∈ tt := (tt2 106 rfl rfl)
theorem d_Ls_beginSums_0 : decode b_Ls_beginSums 0 = .ok (.iconst 0, 1) := by decide +kernel
theorem d_Ls_beginSums_1 : decode b_Ls_beginSums 1 = .ok (.istore_n 2, 1) := by decide +kernel
theorem d_Ls_beginSums_2 : decode b_Ls_beginSums 2 = .ok (.iload_n 2, 1) := by decide +kernel
theorem d_Ls_beginSums_3 : decode b_Ls_beginSums 3 = .ok (.aload_n 0, 1) := by decide +kernel
theorem d_Ls_beginSums_4 : decode b_Ls_beginSums 4 = .ok (.invokevirtual 46, 3) := by decide +kernel
theorem d_Ls_beginSums_7 : decode b_Ls_beginSums 7 = .ok (.if_icmp .ge 18, 3) := by decide +kernel
theorem d_Ls_beginSums_10 : decode b_Ls_beginSums 10 = .ok (.aload_n 0, 1) := by decide +kernel
theorem d_Ls_beginSums_11 : decode b_Ls_beginSums 11 = .ok (.iload_n 2, 1) := by decide +kernel
theorem d_Ls_beginSums_12 : decode b_Ls_beginSums 12 = .ok (.invokevirtual 50, 3) := by decide +kernel
theorem d_Ls_beginSums_15 : decode b_Ls_beginSums 15 = .ok (.aload_n 1, 1) := by decide +kernel
theorem d_Ls_beginSums_16 : decode b_Ls_beginSums 16 = .ok (.invokevirtual 63, 3) := by decide +kernel
theorem d_Ls_beginSums_19 : decode b_Ls_beginSums 19 = .ok (.iinc 2 1, 3) := by decide +kernel
theorem d_Ls_beginSums_22 : decode b_Ls_beginSums 22 = .ok (.goto (-20), 3) := by decide +kernel
theorem d_Ls_beginSums_25 : decode b_Ls_beginSums 25 = .ok (.return_, 1) := by decide +kernel
abbrev b_Ls_stillHold : ByteArray := prog_5_method_13_code
def y_Ls_stillHold : MethodName := ⟨RLs, "stillHold", "(II)Z"⟩
theorem k_Ls_stillHold : Cond.code y_Ls_stillHold b_Ls_stillHold 4 (some .boolean) ∈ tt := (tt3 16 rfl rfl)
theorem i_Ls_stillHold : Cond.instanceMethod y_Ls_stillHold ∈ tt := (tt3 14 rfl rfl)
theorem l_Ls_stillHold : Cond.selects RLs y_Ls_stillHold y_Ls_stillHold ∈ tt := (tt3 15 rfl rfl)
theorem d_Ls_stillHold_0 : decode b_Ls_stillHold 0 = .ok (.iconst 0, 1) := by decide +kernel
theorem d_Ls_stillHold_1 : decode b_Ls_stillHold 1 = .ok (.istore_n 3, 1) := by decide +kernel
theorem d_Ls_stillHold_2 : decode b_Ls_stillHold 2 = .ok (.iload_n 3, 1) := by decide +kernel
theorem d_Ls_stillHold_3 : decode b_Ls_stillHold 3 = .ok (.aload_n 0, 1) := by decide +kernel
theorem d_Ls_stillHold_4 : decode b_Ls_stillHold 4 = .ok (.getfield 20, 3) := by decide +kernel
theorem d_Ls_stillHold_7 : decode b_Ls_stillHold 7 = .ok (.if_icmp .ge 25, 3) := by decide +kernel
theorem d_Ls_stillHold_10 : decode b_Ls_stillHold 10 = .ok (.aload_n 0, 1) := by decide +kernel
theorem d_Ls_stillHold_11 : decode b_Ls_stillHold 11 = .ok (.getfield 11, 3) := by decide +kernel
theorem d_Ls_stillHold_14 : decode b_Ls_stillHold 14 = .ok (.iload_n 3, 1) := by decide +kernel
theorem d_Ls_stillHold_15 : decode b_Ls_stillHold 15 = .ok (.aaload, 1) := by decide +kernel
theorem d_Ls_stillHold_16 : decode b_Ls_stillHold 16 = .ok (.iload_n 1, 1) := by decide +kernel
theorem d_Ls_stillHold_17 : decode b_Ls_stillHold 17 = .ok (.iload_n 2, 1) := by decide +kernel
theorem d_Ls_stillHold_18 : decode b_Ls_stillHold 18 = .ok (.invokevirtual 67, 3) := by decide +kernel
theorem d_Ls_stillHold_21 : decode b_Ls_stillHold 21 = .ok (.ifCond .ne 5, 3) := by decide +kernel
theorem d_Ls_stillHold_24 : decode b_Ls_stillHold 24 = .ok (.iconst 0, 1) := by decide +kernel
theorem d_Ls_stillHold_25 : decode b_Ls_stillHold 25 = .ok (.ireturn, 1) := by decide +kernel
theorem d_Ls_stillHold_26 : decode b_Ls_stillHold 26 = .ok (.iinc 3 1, 3) := by decide +kernel
theorem d_Ls_stillHold_29 : decode b_Ls_stillHold 29 = .ok (.goto (-27), 3) := by decide +kernel
theorem d_Ls_stillHold_32 : decode b_Ls_stillHold 32 = .ok (.iconst 0, 1) := by decide +kernel
theorem d_Ls_stillHold_33 : decode b_Ls_stillHold 33 = .ok (.istore_n 3, 1) := by decide +kernel
theorem d_Ls_stillHold_34 : decode b_Ls_stillHold 34 = .ok (.iload_n 3, 1) := by decide +kernel
theorem d_Ls_stillHold_35 : decode b_Ls_stillHold 35 = .ok (.aload_n 0, 1) := by decide +kernel
theorem d_Ls_stillHold_36 : decode b_Ls_stillHold 36 = .ok (.getfield 24, 3) := by decide +kernel
theorem d_Ls_stillHold_39 : decode b_Ls_stillHold 39 = .ok (.if_icmp .ge 25, 3) := by decide +kernel
theorem d_Ls_stillHold_42 : decode b_Ls_stillHold 42 = .ok (.aload_n 0, 1) := by decide +kernel
theorem d_Ls_stillHold_43 : decode b_Ls_stillHold 43 = .ok (.getfield 17, 3) := by decide +kernel
theorem d_Ls_stillHold_46 : decode b_Ls_stillHold 46 = .ok (.iload_n 3, 1) := by decide +kernel
theorem d_Ls_stillHold_47 : decode b_Ls_stillHold 47 = .ok (.aaload, 1) := by decide +kernel
theorem d_Ls_stillHold_48 : decode b_Ls_stillHold 48 = .ok (.iload_n 1, 1) := by decide +kernel
theorem d_Ls_stillHold_49 : decode b_Ls_stillHold 49 = .ok (.iload_n 2, 1) := by decide +kernel
theorem d_Ls_stillHold_50 : decode b_Ls_stillHold 50 = .ok (.invokevirtual 67, 3) := by decide +kernel
theorem d_Ls_stillHold_53 : decode b_Ls_stillHold 53 = .ok (.ifCond .ne 5, 3) := by decide +kernel
theorem d_Ls_stillHold_56 : decode b_Ls_stillHold 56 = .ok (.iconst 0, 1) := by decide +kernel
theorem d_Ls_stillHold_57 : decode b_Ls_stillHold 57 = .ok (.ireturn, 1) := by decide +kernel
theorem d_Ls_stillHold_58 : decode b_Ls_stillHold 58 = .ok (.iinc 3 1, 3) := by decide +kernel
theorem d_Ls_stillHold_61 : decode b_Ls_stillHold 61 = .ok (.goto (-27), 3) := by decide +kernel
theorem d_Ls_stillHold_64 : decode b_Ls_stillHold 64 = .ok (.iconst 1, 1) := by decide +kernel
theorem d_Ls_stillHold_65 : decode b_Ls_stillHold 65 = .ok (.ireturn, 1) := by decide +kernel
abbrev b_Ls_holdWithoutColumns : ByteArray := prog_5_method_14_code
def y_Ls_holdWithoutColumns : MethodName := ⟨RLs, "holdWithoutColumns", "()Z"⟩
theorem k_Ls_holdWithoutColumns : Cond.code y_Ls_holdWithoutColumns b_Ls_holdWithoutColumns 2 (some .boolean) ∈ tt := (tt3 3 rfl rfl)
theorem i_Ls_holdWithoutColumns : Cond.instanceMethod y_Ls_holdWithoutColumns ∈ tt := (tt3 1 rfl rfl)
theorem l_Ls_holdWithoutColumns : Cond.selects RLs y_Ls_holdWithoutColumns y_Ls_holdWithoutColumns ∈ tt := (tt3 2 rfl rfl)
theorem d_Ls_holdWithoutColumns_0 : decode b_Ls_holdWithoutColumns 0 = .ok (.iconst 0, 1) := by decide +kernel
theorem d_Ls_holdWithoutColumns_1 : decode b_Ls_holdWithoutColumns 1 = .ok (.istore_n 1, 1) := by decide +kernel
theorem d_Ls_holdWithoutColumns_2 : decode b_Ls_holdWithoutColumns 2 = .ok (.iload_n 1, 1) := by decide +kernel
theorem d_Ls_holdWithoutColumns_3 : decode b_Ls_holdWithoutColumns 3 = .ok (.aload_n 0, 1) := by decide +kernel
theorem d_Ls_holdWithoutColumns_4 : decode b_Ls_holdWithoutColumns 4 = .ok (.invokevirtual 46, 3) := by decide +kernel
theorem d_Ls_holdWithoutColumns_7 : decode b_Ls_holdWithoutColumns 7 = .ok (.if_icmp .ge 23, 3) := by decide +kernel
theorem d_Ls_holdWithoutColumns_10 : decode b_Ls_holdWithoutColumns 10 = .ok (.aload_n 0, 1) := by decide +kernel
theorem d_Ls_holdWithoutColumns_11 : decode b_Ls_holdWithoutColumns 11 = .ok (.iload_n 1, 1) := by decide +kernel
theorem d_Ls_holdWithoutColumns_12 : decode b_Ls_holdWithoutColumns 12 = .ok (.invokevirtual 50, 3) := by decide +kernel
theorem d_Ls_holdWithoutColumns_15 : decode b_Ls_holdWithoutColumns 15 = .ok (.iconst 0, 1) := by decide +kernel
theorem d_Ls_holdWithoutColumns_16 : decode b_Ls_holdWithoutColumns 16 = .ok (.invokevirtual 71, 3) := by decide +kernel
theorem d_Ls_holdWithoutColumns_19 : decode b_Ls_holdWithoutColumns 19 = .ok (.ifCond .ne 5, 3) := by decide +kernel
theorem d_Ls_holdWithoutColumns_22 : decode b_Ls_holdWithoutColumns 22 = .ok (.iconst 0, 1) := by decide +kernel
theorem d_Ls_holdWithoutColumns_23 : decode b_Ls_holdWithoutColumns 23 = .ok (.ireturn, 1) := by decide +kernel
theorem d_Ls_holdWithoutColumns_24 : decode b_Ls_holdWithoutColumns 24 = .ok (.iinc 1 1, 3) := by decide +kernel
theorem d_Ls_holdWithoutColumns_27 : decode b_Ls_holdWithoutColumns 27 = .ok (.goto (-25), 3) := by decide +kernel
theorem d_Ls_holdWithoutColumns_30 : decode b_Ls_holdWithoutColumns 30 = .ok (.iconst 1, 1) := by decide +kernel
theorem d_Ls_holdWithoutColumns_31 : decode b_Ls_holdWithoutColumns 31 = .ok (.ireturn, 1) := by decide +kernel
end
section
abbrev b_OB_init : ByteArray := prog_1_method_1_code
def y_OB_init : MethodName := ⟨ROB, "<init>", "()V"⟩
theorem k_OB_init : Cond.code y_OB_init b_OB_init 1 none ∈ tt := (tt1 21 rfl rfl)
theorem i_OB_init : Cond.instanceMethod y_OB_init ∈ tt := (tt1 20 rfl rfl)
theorem d_OB_init_0 : decode b_OB_init 0 = .ok (.aload_n 0, 1) := by decide +kernel
theorem d_OB_init_1 : decode b_OB_init 1 = .ok (.invokespecial 1, 3) := by decide +kernel
theorem d_OB_init_4 : decode b_OB_init 4 = .ok (.aload_n 0, 1) := by decide +kernel
theorem d_OB_init_5 : decode b_OB_init 5 = .ok (.new 7, 3) := by decide +kernel
theorem d_OB_init_8 : decode b_OB_init 8 = .ok (.dup, 1) := by decide +kernel
theorem d_OB_init_9 : decode b_OB_init 9 = .ok (.invokespecial 9, 3) := by decide +kernel
theorem d_OB_init_12 : decode b_OB_init 12 = .ok (.putfield 10, 3) := by decide +kernel
theorem d_OB_init_15 : decode b_OB_init 15 = .ok (.aload_n 0, 1) := by decide +kernel
theorem d_OB_init_16 : decode b_OB_init 16 = .ok (.new 16, 3) := by decide +kernel
theorem d_OB_init_19 : decode b_OB_init 19 = .ok (.dup, 1) := by decide +kernel
theorem d_OB_init_20 : decode b_OB_init 20 = .ok (.invokespecial 18, 3) := by decide +kernel
theorem d_OB_init_23 : decode b_OB_init 23 = .ok (.putfield 19, 3) := by decide +kernel
theorem d_OB_init_26 : decode b_OB_init 26 = .ok (.aload_n 0, 1) := by decide +kernel
theorem d_OB_init_27 : decode b_OB_init 27 = .ok (.new 23, 3) := by decide +kernel
theorem d_OB_init_30 : decode b_OB_init 30 = .ok (.dup, 1) := by decide +kernel
theorem d_OB_init_31 : decode b_OB_init 31 = .ok (.aload_n 0, 1) := by decide +kernel
theorem d_OB_init_32 : decode b_OB_init 32 = .ok (.getfield 10, 3) := by decide +kernel
theorem d_OB_init_35 : decode b_OB_init 35 = .ok (.aload_n 0, 1) := by decide +kernel
theorem d_OB_init_36 : decode b_OB_init 36 = .ok (.getfield 19, 3) := by decide +kernel
theorem d_OB_init_39 : decode b_OB_init 39 = .ok (.invokespecial 25, 3) := by decide +kernel
theorem d_OB_init_42 : decode b_OB_init 42 = .ok (.putfield 28, 3) := by decide +kernel
theorem d_OB_init_45 : decode b_OB_init 45 = .ok (.aload_n 0, 1) := by decide +kernel
theorem d_OB_init_46 : decode b_OB_init 46 = .ok (.new 32, 3) := by decide +kernel
theorem d_OB_init_49 : decode b_OB_init 49 = .ok (.dup, 1) := by decide +kernel
theorem d_OB_init_50 : decode b_OB_init 50 = .ok (.invokespecial 34, 3) := by decide +kernel
theorem d_OB_init_53 : decode b_OB_init 53 = .ok (.putfield 35, 3) := by decide +kernel
theorem d_OB_init_56 : decode b_OB_init 56 = .ok (.return_, 1) := by decide +kernel
abbrev b_OB_column : ByteArray := prog_1_method_2_code
def y_OB_column : MethodName := ⟨ROB, "column", "(II)I"⟩
theorem k_OB_column : Cond.code y_OB_column b_OB_column 4 (some .int) ∈ tt := (tt2 5 rfl rfl)
theorem i_OB_column : Cond.instanceMethod y_OB_column ∈ tt := (tt2 3 rfl rfl)
theorem l_OB_column : Cond.selects ROB y_OB_column y_OB_column ∈ tt := (tt2 4 rfl rfl)
theorem d_OB_column_0 : decode b_OB_column 0 = .ok (.iload_n 1, 1) := by decide +kernel
theorem d_OB_column_1 : decode b_OB_column 1 = .ok (.sipush (-1000), 3) := by decide +kernel
theorem d_OB_column_4 : decode b_OB_column 4 = .ok (.if_icmp .lt 10, 3) := by decide +kernel
theorem d_OB_column_7 : decode b_OB_column 7 = .ok (.iload_n 1, 1) := by decide +kernel
theorem d_OB_column_8 : decode b_OB_column 8 = .ok (.sipush 1000, 3) := by decide +kernel
theorem d_OB_column_11 : decode b_OB_column 11 = .ok (.if_icmp .le 13, 3) := by decide +kernel
theorem d_OB_column_14 : decode b_OB_column 14 = .ok (.new 39, 3) := by decide +kernel
theorem d_OB_column_17 : decode b_OB_column 17 = .ok (.dup, 1) := by decide +kernel
theorem d_OB_column_18 : decode b_OB_column 18 = .ok (.ldc 41, 2) := by decide +kernel
theorem d_OB_column_20 : decode b_OB_column 20 = .ok (.invokespecial 43, 3) := by decide +kernel
theorem d_OB_column_23 : decode b_OB_column 23 = .ok (.athrow, 1) := by decide +kernel
theorem d_OB_column_24 : decode b_OB_column 24 = .ok (.iload_n 2, 1) := by decide +kernel
theorem d_OB_column_25 : decode b_OB_column 25 = .ok (.ifCond .lt 9, 3) := by decide +kernel
theorem d_OB_column_28 : decode b_OB_column 28 = .ok (.iload_n 2, 1) := by decide +kernel
theorem d_OB_column_29 : decode b_OB_column 29 = .ok (.bipush 20, 2) := by decide +kernel
theorem d_OB_column_31 : decode b_OB_column 31 = .ok (.if_icmp .le 13, 3) := by decide +kernel
theorem d_OB_column_34 : decode b_OB_column 34 = .ok (.new 39, 3) := by decide +kernel
theorem d_OB_column_37 : decode b_OB_column 37 = .ok (.dup, 1) := by decide +kernel
theorem d_OB_column_38 : decode b_OB_column 38 = .ok (.ldc 46, 2) := by decide +kernel
theorem d_OB_column_40 : decode b_OB_column 40 = .ok (.invokespecial 43, 3) := by decide +kernel
theorem d_OB_column_43 : decode b_OB_column 43 = .ok (.athrow, 1) := by decide +kernel
theorem d_OB_column_44 : decode b_OB_column 44 = .ok (.aload_n 0, 1) := by decide +kernel
theorem d_OB_column_45 : decode b_OB_column 45 = .ok (.getfield 10, 3) := by decide +kernel
theorem d_OB_column_48 : decode b_OB_column 48 = .ok (.invokevirtual 48, 3) := by decide +kernel
theorem d_OB_column_51 : decode b_OB_column 51 = .ok (.iconst 5, 1) := by decide +kernel
theorem d_OB_column_52 : decode b_OB_column 52 = .ok (.if_icmp .lt 13, 3) := by decide +kernel
theorem d_OB_column_55 : decode b_OB_column 55 = .ok (.new 52, 3) := by decide +kernel
theorem d_OB_column_58 : decode b_OB_column 58 = .ok (.dup, 1) := by decide +kernel
theorem d_OB_column_59 : decode b_OB_column 59 = .ok (.ldc 54, 2) := by decide +kernel
theorem d_OB_column_61 : decode b_OB_column 61 = .ok (.invokespecial 56, 3) := by decide +kernel
theorem d_OB_column_64 : decode b_OB_column 64 = .ok (.athrow, 1) := by decide +kernel
theorem d_OB_column_65 : decode b_OB_column 65 = .ok (.aload_n 0, 1) := by decide +kernel
theorem d_OB_column_66 : decode b_OB_column 66 = .ok (.getfield 10, 3) := by decide +kernel
theorem d_OB_column_69 : decode b_OB_column 69 = .ok (.iload_n 1, 1) := by decide +kernel
theorem d_OB_column_70 : decode b_OB_column 70 = .ok (.iload_n 2, 1) := by decide +kernel
theorem d_OB_column_71 : decode b_OB_column 71 = .ok (.invokevirtual 57, 3) := by decide +kernel
theorem d_OB_column_74 : decode b_OB_column 74 = .ok (.istore_n 3, 1) := by decide +kernel
theorem d_OB_column_75 : decode b_OB_column 75 = .ok (.aload_n 0, 1) := by decide +kernel
theorem d_OB_column_76 : decode b_OB_column 76 = .ok (.getfield 28, 3) := by decide +kernel
theorem d_OB_column_79 : decode b_OB_column 79 = .ok (.invokevirtual 61, 3) := by decide +kernel
theorem d_OB_column_82 : decode b_OB_column 82 = .ok (.iload_n 3, 1) := by decide +kernel
theorem d_OB_column_83 : decode b_OB_column 83 = .ok (.ireturn, 1) := by decide +kernel
abbrev b_OB_row : ByteArray := prog_1_method_3_code
def y_OB_row : MethodName := ⟨ROB, "row", "(II)I"⟩
theorem k_OB_row : Cond.code y_OB_row b_OB_row 4 (some .int) ∈ tt := (tt2 118 rfl rfl)
theorem i_OB_row : Cond.instanceMethod y_OB_row ∈ tt := (tt2 116 rfl rfl)
theorem l_OB_row : Cond.selects ROB y_OB_row y_OB_row ∈ tt := (tt2 117 rfl rfl)
theorem d_OB_row_0 : decode b_OB_row 0 = .ok (.iload_n 1, 1) := by decide +kernel
theorem d_OB_row_1 : decode b_OB_row 1 = .ok (.ifCond .eq 18, 3) := by decide +kernel
theorem d_OB_row_4 : decode b_OB_row 4 = .ok (.iload_n 1, 1) := by decide +kernel
theorem d_OB_row_5 : decode b_OB_row 5 = .ok (.iconst 1, 1) := by decide +kernel
theorem d_OB_row_6 : decode b_OB_row 6 = .ok (.if_icmp .eq 13, 3) := by decide +kernel
theorem d_OB_row_9 : decode b_OB_row 9 = .ok (.new 39, 3) := by decide +kernel
theorem d_OB_row_12 : decode b_OB_row 12 = .ok (.dup, 1) := by decide +kernel
theorem d_OB_row_13 : decode b_OB_row 13 = .ok (.ldc 64, 2) := by decide +kernel
theorem d_OB_row_15 : decode b_OB_row 15 = .ok (.invokespecial 43, 3) := by decide +kernel
theorem d_OB_row_18 : decode b_OB_row 18 = .ok (.athrow, 1) := by decide +kernel
theorem d_OB_row_19 : decode b_OB_row 19 = .ok (.iload_n 2, 1) := by decide +kernel
theorem d_OB_row_20 : decode b_OB_row 20 = .ok (.invokestatic 66, 3) := by decide +kernel
theorem d_OB_row_23 : decode b_OB_row 23 = .ok (.ifCond .eq 13, 3) := by decide +kernel
theorem d_OB_row_26 : decode b_OB_row 26 = .ok (.new 39, 3) := by decide +kernel
theorem d_OB_row_29 : decode b_OB_row 29 = .ok (.dup, 1) := by decide +kernel
theorem d_OB_row_30 : decode b_OB_row 30 = .ok (.ldc 70, 2) := by decide +kernel
theorem d_OB_row_32 : decode b_OB_row 32 = .ok (.invokespecial 43, 3) := by decide +kernel
theorem d_OB_row_35 : decode b_OB_row 35 = .ok (.athrow, 1) := by decide +kernel
theorem d_OB_row_36 : decode b_OB_row 36 = .ok (.aload_n 0, 1) := by decide +kernel
theorem d_OB_row_37 : decode b_OB_row 37 = .ok (.getfield 19, 3) := by decide +kernel
theorem d_OB_row_40 : decode b_OB_row 40 = .ok (.invokevirtual 72, 3) := by decide +kernel
theorem d_OB_row_43 : decode b_OB_row 43 = .ok (.iconst 4, 1) := by decide +kernel
theorem d_OB_row_44 : decode b_OB_row 44 = .ok (.if_icmp .lt 13, 3) := by decide +kernel
theorem d_OB_row_47 : decode b_OB_row 47 = .ok (.new 52, 3) := by decide +kernel
theorem d_OB_row_50 : decode b_OB_row 50 = .ok (.dup, 1) := by decide +kernel
theorem d_OB_row_51 : decode b_OB_row 51 = .ok (.ldc 75, 2) := by decide +kernel
theorem d_OB_row_53 : decode b_OB_row 53 = .ok (.invokespecial 56, 3) := by decide +kernel
theorem d_OB_row_56 : decode b_OB_row 56 = .ok (.athrow, 1) := by decide +kernel
theorem d_OB_row_57 : decode b_OB_row 57 = .ok (.aload_n 0, 1) := by decide +kernel
theorem d_OB_row_58 : decode b_OB_row 58 = .ok (.getfield 19, 3) := by decide +kernel
theorem d_OB_row_61 : decode b_OB_row 61 = .ok (.iload_n 1, 1) := by decide +kernel
theorem d_OB_row_62 : decode b_OB_row 62 = .ok (.iload_n 2, 1) := by decide +kernel
theorem d_OB_row_63 : decode b_OB_row 63 = .ok (.invokevirtual 77, 3) := by decide +kernel
theorem d_OB_row_66 : decode b_OB_row 66 = .ok (.istore_n 3, 1) := by decide +kernel
theorem d_OB_row_67 : decode b_OB_row 67 = .ok (.aload_n 0, 1) := by decide +kernel
theorem d_OB_row_68 : decode b_OB_row 68 = .ok (.getfield 28, 3) := by decide +kernel
theorem d_OB_row_71 : decode b_OB_row 71 = .ok (.invokevirtual 61, 3) := by decide +kernel
theorem d_OB_row_74 : decode b_OB_row 74 = .ok (.iload_n 3, 1) := by decide +kernel
theorem d_OB_row_75 : decode b_OB_row 75 = .ok (.ireturn, 1) := by decide +kernel
abbrev b_OB_factor : ByteArray := prog_1_method_4_code
def y_OB_factor : MethodName := ⟨ROB, "factor", "(III)V"⟩
theorem k_OB_factor : Cond.code y_OB_factor b_OB_factor 4 none ∈ tt := (tt2 156 rfl rfl)
theorem i_OB_factor : Cond.instanceMethod y_OB_factor ∈ tt := (tt2 154 rfl rfl)
theorem l_OB_factor : Cond.selects ROB y_OB_factor y_OB_factor ∈ tt := (tt2 155 rfl rfl)
theorem d_OB_factor_0 : decode b_OB_factor 0 = .ok (.aload_n 0, 1) := by decide +kernel
theorem d_OB_factor_1 : decode b_OB_factor 1 = .ok (.iload_n 1, 1) := by decide +kernel
theorem d_OB_factor_2 : decode b_OB_factor 2 = .ok (.invokevirtual 80, 3) := by decide +kernel
theorem d_OB_factor_5 : decode b_OB_factor 5 = .ok (.ifCond .eq 13, 3) := by decide +kernel
theorem d_OB_factor_8 : decode b_OB_factor 8 = .ok (.new 83, 3) := by decide +kernel
theorem d_OB_factor_11 : decode b_OB_factor 11 = .ok (.dup, 1) := by decide +kernel
theorem d_OB_factor_12 : decode b_OB_factor 12 = .ok (.ldc 85, 2) := by decide +kernel
theorem d_OB_factor_14 : decode b_OB_factor 14 = .ok (.invokespecial 87, 3) := by decide +kernel
theorem d_OB_factor_17 : decode b_OB_factor 17 = .ok (.athrow, 1) := by decide +kernel
theorem d_OB_factor_18 : decode b_OB_factor 18 = .ok (.aload_n 0, 1) := by decide +kernel
theorem d_OB_factor_19 : decode b_OB_factor 19 = .ok (.iload_n 2, 1) := by decide +kernel
theorem d_OB_factor_20 : decode b_OB_factor 20 = .ok (.invokevirtual 88, 3) := by decide +kernel
theorem d_OB_factor_23 : decode b_OB_factor 23 = .ok (.ifCond .eq 13, 3) := by decide +kernel
theorem d_OB_factor_26 : decode b_OB_factor 26 = .ok (.new 83, 3) := by decide +kernel
theorem d_OB_factor_29 : decode b_OB_factor 29 = .ok (.dup, 1) := by decide +kernel
theorem d_OB_factor_30 : decode b_OB_factor 30 = .ok (.ldc 91, 2) := by decide +kernel
theorem d_OB_factor_32 : decode b_OB_factor 32 = .ok (.invokespecial 87, 3) := by decide +kernel
theorem d_OB_factor_35 : decode b_OB_factor 35 = .ok (.athrow, 1) := by decide +kernel
theorem d_OB_factor_36 : decode b_OB_factor 36 = .ok (.iload_n 3, 1) := by decide +kernel
theorem d_OB_factor_37 : decode b_OB_factor 37 = .ok (.bipush (-10), 2) := by decide +kernel
theorem d_OB_factor_39 : decode b_OB_factor 39 = .ok (.if_icmp .lt 9, 3) := by decide +kernel
theorem d_OB_factor_42 : decode b_OB_factor 42 = .ok (.iload_n 3, 1) := by decide +kernel
theorem d_OB_factor_43 : decode b_OB_factor 43 = .ok (.bipush 10, 2) := by decide +kernel
theorem d_OB_factor_45 : decode b_OB_factor 45 = .ok (.if_icmp .le 13, 3) := by decide +kernel
theorem d_OB_factor_48 : decode b_OB_factor 48 = .ok (.new 39, 3) := by decide +kernel
theorem d_OB_factor_51 : decode b_OB_factor 51 = .ok (.dup, 1) := by decide +kernel
theorem d_OB_factor_52 : decode b_OB_factor 52 = .ok (.ldc 93, 2) := by decide +kernel
theorem d_OB_factor_54 : decode b_OB_factor 54 = .ok (.invokespecial 43, 3) := by decide +kernel
theorem d_OB_factor_57 : decode b_OB_factor 57 = .ok (.athrow, 1) := by decide +kernel
theorem d_OB_factor_58 : decode b_OB_factor 58 = .ok (.aload_n 0, 1) := by decide +kernel
theorem d_OB_factor_59 : decode b_OB_factor 59 = .ok (.getfield 19, 3) := by decide +kernel
theorem d_OB_factor_62 : decode b_OB_factor 62 = .ok (.iload_n 1, 1) := by decide +kernel
theorem d_OB_factor_63 : decode b_OB_factor 63 = .ok (.invokevirtual 95, 3) := by decide +kernel
theorem d_OB_factor_66 : decode b_OB_factor 66 = .ok (.iload_n 2, 1) := by decide +kernel
theorem d_OB_factor_67 : decode b_OB_factor 67 = .ok (.iload_n 3, 1) := by decide +kernel
theorem d_OB_factor_68 : decode b_OB_factor 68 = .ok (.invokevirtual 99, 3) := by decide +kernel
theorem d_OB_factor_71 : decode b_OB_factor 71 = .ok (.aload_n 0, 1) := by decide +kernel
theorem d_OB_factor_72 : decode b_OB_factor 72 = .ok (.getfield 28, 3) := by decide +kernel
theorem d_OB_factor_75 : decode b_OB_factor 75 = .ok (.invokevirtual 61, 3) := by decide +kernel
theorem d_OB_factor_78 : decode b_OB_factor 78 = .ok (.return_, 1) := by decide +kernel
abbrev b_OB_right : ByteArray := prog_1_method_5_code
def y_OB_right : MethodName := ⟨ROB, "right", "(II)V"⟩
theorem k_OB_right : Cond.code y_OB_right b_OB_right 3 none ∈ tt := (tt2 193 rfl rfl)
theorem i_OB_right : Cond.instanceMethod y_OB_right ∈ tt := (tt2 191 rfl rfl)
theorem l_OB_right : Cond.selects ROB y_OB_right y_OB_right ∈ tt := (tt2 192 rfl rfl)
theorem d_OB_right_0 : decode b_OB_right 0 = .ok (.aload_n 0, 1) := by decide +kernel
theorem d_OB_right_1 : decode b_OB_right 1 = .ok (.iload_n 1, 1) := by decide +kernel
theorem d_OB_right_2 : decode b_OB_right 2 = .ok (.invokevirtual 80, 3) := by decide +kernel
theorem d_OB_right_5 : decode b_OB_right 5 = .ok (.ifCond .eq 13, 3) := by decide +kernel
theorem d_OB_right_8 : decode b_OB_right 8 = .ok (.new 83, 3) := by decide +kernel
theorem d_OB_right_11 : decode b_OB_right 11 = .ok (.dup, 1) := by decide +kernel
theorem d_OB_right_12 : decode b_OB_right 12 = .ok (.ldc 85, 2) := by decide +kernel
theorem d_OB_right_14 : decode b_OB_right 14 = .ok (.invokespecial 87, 3) := by decide +kernel
theorem d_OB_right_17 : decode b_OB_right 17 = .ok (.athrow, 1) := by decide +kernel
theorem d_OB_right_18 : decode b_OB_right 18 = .ok (.iload_n 2, 1) := by decide +kernel
theorem d_OB_right_19 : decode b_OB_right 19 = .ok (.invokestatic 66, 3) := by decide +kernel
theorem d_OB_right_22 : decode b_OB_right 22 = .ok (.ifCond .eq 13, 3) := by decide +kernel
theorem d_OB_right_25 : decode b_OB_right 25 = .ok (.new 39, 3) := by decide +kernel
theorem d_OB_right_28 : decode b_OB_right 28 = .ok (.dup, 1) := by decide +kernel
theorem d_OB_right_29 : decode b_OB_right 29 = .ok (.ldc 70, 2) := by decide +kernel
theorem d_OB_right_31 : decode b_OB_right 31 = .ok (.invokespecial 43, 3) := by decide +kernel
theorem d_OB_right_34 : decode b_OB_right 34 = .ok (.athrow, 1) := by decide +kernel
theorem d_OB_right_35 : decode b_OB_right 35 = .ok (.aload_n 0, 1) := by decide +kernel
theorem d_OB_right_36 : decode b_OB_right 36 = .ok (.getfield 19, 3) := by decide +kernel
theorem d_OB_right_39 : decode b_OB_right 39 = .ok (.iload_n 1, 1) := by decide +kernel
theorem d_OB_right_40 : decode b_OB_right 40 = .ok (.invokevirtual 95, 3) := by decide +kernel
theorem d_OB_right_43 : decode b_OB_right 43 = .ok (.iload_n 2, 1) := by decide +kernel
theorem d_OB_right_44 : decode b_OB_right 44 = .ok (.invokevirtual 105, 3) := by decide +kernel
theorem d_OB_right_47 : decode b_OB_right 47 = .ok (.aload_n 0, 1) := by decide +kernel
theorem d_OB_right_48 : decode b_OB_right 48 = .ok (.getfield 28, 3) := by decide +kernel
theorem d_OB_right_51 : decode b_OB_right 51 = .ok (.invokevirtual 61, 3) := by decide +kernel
theorem d_OB_right_54 : decode b_OB_right 54 = .ok (.return_, 1) := by decide +kernel
abbrev b_OB_cut : ByteArray := prog_1_method_6_code
def y_OB_cut : MethodName := ⟨ROB, "cut", "(II)I"⟩
theorem k_OB_cut : Cond.code y_OB_cut b_OB_cut 4 (some .int) ∈ tt := (tt2 201 rfl rfl)
theorem i_OB_cut : Cond.instanceMethod y_OB_cut ∈ tt := (tt2 199 rfl rfl)
theorem l_OB_cut : Cond.selects ROB y_OB_cut y_OB_cut ∈ tt := (tt2 200 rfl rfl)
theorem d_OB_cut_0 : decode b_OB_cut 0 = .ok (.aload_n 0, 1) := by decide +kernel
theorem d_OB_cut_1 : decode b_OB_cut 1 = .ok (.iload_n 1, 1) := by decide +kernel
theorem d_OB_cut_2 : decode b_OB_cut 2 = .ok (.iload_n 2, 1) := by decide +kernel
theorem d_OB_cut_3 : decode b_OB_cut 3 = .ok (.invokevirtual 109, 3) := by decide +kernel
theorem d_OB_cut_6 : decode b_OB_cut 6 = .ok (.ifCond .eq 13, 3) := by decide +kernel
theorem d_OB_cut_9 : decode b_OB_cut 9 = .ok (.new 83, 3) := by decide +kernel
theorem d_OB_cut_12 : decode b_OB_cut 12 = .ok (.dup, 1) := by decide +kernel
theorem d_OB_cut_13 : decode b_OB_cut 13 = .ok (.ldc 113, 2) := by decide +kernel
theorem d_OB_cut_15 : decode b_OB_cut 15 = .ok (.invokespecial 87, 3) := by decide +kernel
theorem d_OB_cut_18 : decode b_OB_cut 18 = .ok (.athrow, 1) := by decide +kernel
theorem d_OB_cut_19 : decode b_OB_cut 19 = .ok (.aload_n 0, 1) := by decide +kernel
theorem d_OB_cut_20 : decode b_OB_cut 20 = .ok (.getfield 19, 3) := by decide +kernel
theorem d_OB_cut_23 : decode b_OB_cut 23 = .ok (.invokevirtual 115, 3) := by decide +kernel
theorem d_OB_cut_26 : decode b_OB_cut 26 = .ok (.iconst 4, 1) := by decide +kernel
theorem d_OB_cut_27 : decode b_OB_cut 27 = .ok (.if_icmp .lt 13, 3) := by decide +kernel
theorem d_OB_cut_30 : decode b_OB_cut 30 = .ok (.new 52, 3) := by decide +kernel
theorem d_OB_cut_33 : decode b_OB_cut 33 = .ok (.dup, 1) := by decide +kernel
theorem d_OB_cut_34 : decode b_OB_cut 34 = .ok (.ldc 118, 2) := by decide +kernel
theorem d_OB_cut_36 : decode b_OB_cut 36 = .ok (.invokespecial 56, 3) := by decide +kernel
theorem d_OB_cut_39 : decode b_OB_cut 39 = .ok (.athrow, 1) := by decide +kernel
theorem d_OB_cut_40 : decode b_OB_cut 40 = .ok (.aload_n 0, 1) := by decide +kernel
theorem d_OB_cut_41 : decode b_OB_cut 41 = .ok (.getfield 19, 3) := by decide +kernel
theorem d_OB_cut_44 : decode b_OB_cut 44 = .ok (.iload_n 1, 1) := by decide +kernel
theorem d_OB_cut_45 : decode b_OB_cut 45 = .ok (.iload_n 2, 1) := by decide +kernel
theorem d_OB_cut_46 : decode b_OB_cut 46 = .ok (.invokevirtual 120, 3) := by decide +kernel
theorem d_OB_cut_49 : decode b_OB_cut 49 = .ok (.ifCond .eq 13, 3) := by decide +kernel
theorem d_OB_cut_52 : decode b_OB_cut 52 = .ok (.new 52, 3) := by decide +kernel
theorem d_OB_cut_55 : decode b_OB_cut 55 = .ok (.dup, 1) := by decide +kernel
theorem d_OB_cut_56 : decode b_OB_cut 56 = .ok (.ldc 123, 2) := by decide +kernel
theorem d_OB_cut_58 : decode b_OB_cut 58 = .ok (.invokespecial 56, 3) := by decide +kernel
theorem d_OB_cut_61 : decode b_OB_cut 61 = .ok (.athrow, 1) := by decide +kernel
theorem d_OB_cut_62 : decode b_OB_cut 62 = .ok (.aload_n 0, 1) := by decide +kernel
theorem d_OB_cut_63 : decode b_OB_cut 63 = .ok (.getfield 19, 3) := by decide +kernel
theorem d_OB_cut_66 : decode b_OB_cut 66 = .ok (.iload_n 1, 1) := by decide +kernel
theorem d_OB_cut_67 : decode b_OB_cut 67 = .ok (.iload_n 2, 1) := by decide +kernel
theorem d_OB_cut_68 : decode b_OB_cut 68 = .ok (.aload_n 0, 1) := by decide +kernel
theorem d_OB_cut_69 : decode b_OB_cut 69 = .ok (.getfield 10, 3) := by decide +kernel
theorem d_OB_cut_72 : decode b_OB_cut 72 = .ok (.iload_n 1, 1) := by decide +kernel
theorem d_OB_cut_73 : decode b_OB_cut 73 = .ok (.invokevirtual 125, 3) := by decide +kernel
theorem d_OB_cut_76 : decode b_OB_cut 76 = .ok (.aload_n 0, 1) := by decide +kernel
theorem d_OB_cut_77 : decode b_OB_cut 77 = .ok (.getfield 10, 3) := by decide +kernel
theorem d_OB_cut_80 : decode b_OB_cut 80 = .ok (.iload_n 2, 1) := by decide +kernel
theorem d_OB_cut_81 : decode b_OB_cut 81 = .ok (.invokevirtual 125, 3) := by decide +kernel
theorem d_OB_cut_84 : decode b_OB_cut 84 = .ok (.invokestatic 129, 3) := by decide +kernel
theorem d_OB_cut_87 : decode b_OB_cut 87 = .ok (.invokevirtual 134, 3) := by decide +kernel
theorem d_OB_cut_90 : decode b_OB_cut 90 = .ok (.istore_n 3, 1) := by decide +kernel
theorem d_OB_cut_91 : decode b_OB_cut 91 = .ok (.aload_n 0, 1) := by decide +kernel
theorem d_OB_cut_92 : decode b_OB_cut 92 = .ok (.getfield 28, 3) := by decide +kernel
theorem d_OB_cut_95 : decode b_OB_cut 95 = .ok (.invokevirtual 61, 3) := by decide +kernel
theorem d_OB_cut_98 : decode b_OB_cut 98 = .ok (.iload_n 3, 1) := by decide +kernel
theorem d_OB_cut_99 : decode b_OB_cut 99 = .ok (.ireturn, 1) := by decide +kernel
abbrev b_OB_run : ByteArray := prog_1_method_7_code
def y_OB_run : MethodName := ⟨ROB, "run", "(I)I"⟩
theorem k_OB_run : Cond.code y_OB_run b_OB_run 2 (some .int) ∈ tt := (tt2 229 rfl rfl)
theorem i_OB_run : Cond.instanceMethod y_OB_run ∈ tt := (tt2 227 rfl rfl)
theorem l_OB_run : Cond.selects ROB y_OB_run y_OB_run ∈ tt := (tt2 228 rfl rfl)
theorem d_OB_run_0 : decode b_OB_run 0 = .ok (.iload_n 1, 1) := by decide +kernel
theorem d_OB_run_1 : decode b_OB_run 1 = .ok (.ifCond .lt 9, 3) := by decide +kernel
theorem d_OB_run_4 : decode b_OB_run 4 = .ok (.iload_n 1, 1) := by decide +kernel
theorem d_OB_run_5 : decode b_OB_run 5 = .ok (.ldc 138, 2) := by decide +kernel
theorem d_OB_run_7 : decode b_OB_run 7 = .ok (.if_icmp .le 13, 3) := by decide +kernel
theorem d_OB_run_10 : decode b_OB_run 10 = .ok (.new 39, 3) := by decide +kernel
theorem d_OB_run_13 : decode b_OB_run 13 = .ok (.dup, 1) := by decide +kernel
theorem d_OB_run_14 : decode b_OB_run 14 = .ok (.ldc 139, 2) := by decide +kernel
theorem d_OB_run_16 : decode b_OB_run 16 = .ok (.invokespecial 43, 3) := by decide +kernel
theorem d_OB_run_19 : decode b_OB_run 19 = .ok (.athrow, 1) := by decide +kernel
theorem d_OB_run_20 : decode b_OB_run 20 = .ok (.aload_n 0, 1) := by decide +kernel
theorem d_OB_run_21 : decode b_OB_run 21 = .ok (.getfield 28, 3) := by decide +kernel
theorem d_OB_run_24 : decode b_OB_run 24 = .ok (.iload_n 1, 1) := by decide +kernel
theorem d_OB_run_25 : decode b_OB_run 25 = .ok (.invokevirtual 141, 3) := by decide +kernel
theorem d_OB_run_28 : decode b_OB_run 28 = .ok (.ireturn, 1) := by decide +kernel
abbrev b_OB_told : ByteArray := prog_1_method_8_code
def y_OB_told : MethodName := ⟨ROB, "told", "(I)I"⟩
theorem k_OB_told : Cond.code y_OB_told b_OB_told 2 (some .int) ∈ tt := (tt3 39 rfl rfl)
theorem i_OB_told : Cond.instanceMethod y_OB_told ∈ tt := (tt3 37 rfl rfl)
theorem l_OB_told : Cond.selects ROB y_OB_told y_OB_told ∈ tt := (tt3 38 rfl rfl)
theorem d_OB_told_0 : decode b_OB_told 0 = .ok (.iload_n 1, 1) := by decide +kernel
theorem d_OB_told_1 : decode b_OB_told 1 = .ok (.ifCond .eq 18, 3) := by decide +kernel
theorem d_OB_told_4 : decode b_OB_told 4 = .ok (.iload_n 1, 1) := by decide +kernel
theorem d_OB_told_5 : decode b_OB_told 5 = .ok (.iconst 1, 1) := by decide +kernel
theorem d_OB_told_6 : decode b_OB_told 6 = .ok (.if_icmp .eq 13, 3) := by decide +kernel
theorem d_OB_told_9 : decode b_OB_told 9 = .ok (.new 83, 3) := by decide +kernel
theorem d_OB_told_12 : decode b_OB_told 12 = .ok (.dup, 1) := by decide +kernel
theorem d_OB_told_13 : decode b_OB_told 13 = .ok (.ldc 144, 2) := by decide +kernel
theorem d_OB_told_15 : decode b_OB_told 15 = .ok (.invokespecial 87, 3) := by decide +kernel
theorem d_OB_told_18 : decode b_OB_told 18 = .ok (.athrow, 1) := by decide +kernel
theorem d_OB_told_19 : decode b_OB_told 19 = .ok (.iload_n 1, 1) := by decide +kernel
theorem d_OB_told_20 : decode b_OB_told 20 = .ok (.iconst 1, 1) := by decide +kernel
theorem d_OB_told_21 : decode b_OB_told 21 = .ok (.if_icmp .ne 11, 3) := by decide +kernel
theorem d_OB_told_24 : decode b_OB_told 24 = .ok (.aload_n 0, 1) := by decide +kernel
theorem d_OB_told_25 : decode b_OB_told 25 = .ok (.getfield 28, 3) := by decide +kernel
theorem d_OB_told_28 : decode b_OB_told 28 = .ok (.invokevirtual 146, 3) := by decide +kernel
theorem d_OB_told_31 : decode b_OB_told 31 = .ok (.ireturn, 1) := by decide +kernel
theorem d_OB_told_32 : decode b_OB_told 32 = .ok (.aload_n 0, 1) := by decide +kernel
theorem d_OB_told_33 : decode b_OB_told 33 = .ok (.getfield 28, 3) := by decide +kernel
theorem d_OB_told_36 : decode b_OB_told 36 = .ok (.invokevirtual 149, 3) := by decide +kernel
theorem d_OB_told_39 : decode b_OB_told 39 = .ok (.ifCond .ne 13, 3) := by decide +kernel
theorem d_OB_told_42 : decode b_OB_told 42 = .ok (.new 153, 3) := by decide +kernel
theorem d_OB_told_45 : decode b_OB_told 45 = .ok (.dup, 1) := by decide +kernel
theorem d_OB_told_46 : decode b_OB_told 46 = .ok (.ldc 155, 2) := by decide +kernel
theorem d_OB_told_48 : decode b_OB_told 48 = .ok (.invokespecial 157, 3) := by decide +kernel
theorem d_OB_told_51 : decode b_OB_told 51 = .ok (.athrow, 1) := by decide +kernel
theorem d_OB_told_52 : decode b_OB_told 52 = .ok (.aload_n 0, 1) := by decide +kernel
theorem d_OB_told_53 : decode b_OB_told 53 = .ok (.getfield 28, 3) := by decide +kernel
theorem d_OB_told_56 : decode b_OB_told 56 = .ok (.invokevirtual 158, 3) := by decide +kernel
theorem d_OB_told_59 : decode b_OB_told 59 = .ok (.ireturn, 1) := by decide +kernel
abbrev b_OB_value : ByteArray := prog_1_method_9_code
def y_OB_value : MethodName := ⟨ROB, "value", "(I)I"⟩
theorem k_OB_value : Cond.code y_OB_value b_OB_value 2 (some .int) ∈ tt := (tt3 75 rfl rfl)
theorem i_OB_value : Cond.instanceMethod y_OB_value ∈ tt := (tt3 73 rfl rfl)
theorem l_OB_value : Cond.selects ROB y_OB_value y_OB_value ∈ tt := (tt3 74 rfl rfl)
theorem d_OB_value_0 : decode b_OB_value 0 = .ok (.aload_n 0, 1) := by decide +kernel
theorem d_OB_value_1 : decode b_OB_value 1 = .ok (.iload_n 1, 1) := by decide +kernel
theorem d_OB_value_2 : decode b_OB_value 2 = .ok (.invokevirtual 88, 3) := by decide +kernel
theorem d_OB_value_5 : decode b_OB_value 5 = .ok (.ifCond .eq 13, 3) := by decide +kernel
theorem d_OB_value_8 : decode b_OB_value 8 = .ok (.new 83, 3) := by decide +kernel
theorem d_OB_value_11 : decode b_OB_value 11 = .ok (.dup, 1) := by decide +kernel
theorem d_OB_value_12 : decode b_OB_value 12 = .ok (.ldc 91, 2) := by decide +kernel
theorem d_OB_value_14 : decode b_OB_value 14 = .ok (.invokespecial 87, 3) := by decide +kernel
theorem d_OB_value_17 : decode b_OB_value 17 = .ok (.athrow, 1) := by decide +kernel
theorem d_OB_value_18 : decode b_OB_value 18 = .ok (.aload_n 0, 1) := by decide +kernel
theorem d_OB_value_19 : decode b_OB_value 19 = .ok (.getfield 28, 3) := by decide +kernel
theorem d_OB_value_22 : decode b_OB_value 22 = .ok (.invokevirtual 149, 3) := by decide +kernel
theorem d_OB_value_25 : decode b_OB_value 25 = .ok (.ifCond .ne 13, 3) := by decide +kernel
theorem d_OB_value_28 : decode b_OB_value 28 = .ok (.new 153, 3) := by decide +kernel
theorem d_OB_value_31 : decode b_OB_value 31 = .ok (.dup, 1) := by decide +kernel
theorem d_OB_value_32 : decode b_OB_value 32 = .ok (.ldc 155, 2) := by decide +kernel
theorem d_OB_value_34 : decode b_OB_value 34 = .ok (.invokespecial 157, 3) := by decide +kernel
theorem d_OB_value_37 : decode b_OB_value 37 = .ok (.athrow, 1) := by decide +kernel
theorem d_OB_value_38 : decode b_OB_value 38 = .ok (.aload_n 0, 1) := by decide +kernel
theorem d_OB_value_39 : decode b_OB_value 39 = .ok (.getfield 28, 3) := by decide +kernel
theorem d_OB_value_42 : decode b_OB_value 42 = .ok (.iload_n 1, 1) := by decide +kernel
theorem d_OB_value_43 : decode b_OB_value 43 = .ok (.invokevirtual 161, 3) := by decide +kernel
theorem d_OB_value_46 : decode b_OB_value 46 = .ok (.ireturn, 1) := by decide +kernel
abbrev b_OB_multiplier : ByteArray := prog_1_method_10_code
def y_OB_multiplier : MethodName := ⟨ROB, "multiplier", "(II)V"⟩
theorem k_OB_multiplier : Cond.code y_OB_multiplier b_OB_multiplier 4 none ∈ tt := (tt3 86 rfl rfl)
theorem i_OB_multiplier : Cond.instanceMethod y_OB_multiplier ∈ tt := (tt3 84 rfl rfl)
theorem l_OB_multiplier : Cond.selects ROB y_OB_multiplier y_OB_multiplier ∈ tt := (tt3 85 rfl rfl)
theorem d_OB_multiplier_0 : decode b_OB_multiplier 0 = .ok (.iload_n 1, 1) := by decide +kernel
theorem d_OB_multiplier_1 : decode b_OB_multiplier 1 = .ok (.ifCond .lt 14, 3) := by decide +kernel
theorem d_OB_multiplier_4 : decode b_OB_multiplier 4 = .ok (.iload_n 1, 1) := by decide +kernel
theorem d_OB_multiplier_5 : decode b_OB_multiplier 5 = .ok (.aload_n 0, 1) := by decide +kernel
theorem d_OB_multiplier_6 : decode b_OB_multiplier 6 = .ok (.getfield 19, 3) := by decide +kernel
theorem d_OB_multiplier_9 : decode b_OB_multiplier 9 = .ok (.invokevirtual 164, 3) := by decide +kernel
theorem d_OB_multiplier_12 : decode b_OB_multiplier 12 = .ok (.if_icmp .lt 13, 3) := by decide +kernel
theorem d_OB_multiplier_15 : decode b_OB_multiplier 15 = .ok (.new 83, 3) := by decide +kernel
theorem d_OB_multiplier_18 : decode b_OB_multiplier 18 = .ok (.dup, 1) := by decide +kernel
theorem d_OB_multiplier_19 : decode b_OB_multiplier 19 = .ok (.ldc 165, 2) := by decide +kernel
theorem d_OB_multiplier_21 : decode b_OB_multiplier 21 = .ok (.invokespecial 87, 3) := by decide +kernel
theorem d_OB_multiplier_24 : decode b_OB_multiplier 24 = .ok (.athrow, 1) := by decide +kernel
theorem d_OB_multiplier_25 : decode b_OB_multiplier 25 = .ok (.aload_n 0, 1) := by decide +kernel
theorem d_OB_multiplier_26 : decode b_OB_multiplier 26 = .ok (.getfield 19, 3) := by decide +kernel
theorem d_OB_multiplier_29 : decode b_OB_multiplier 29 = .ok (.iload_n 1, 1) := by decide +kernel
theorem d_OB_multiplier_30 : decode b_OB_multiplier 30 = .ok (.invokevirtual 95, 3) := by decide +kernel
theorem d_OB_multiplier_33 : decode b_OB_multiplier 33 = .ok (.astore_n 3, 1) := by decide +kernel
theorem d_OB_multiplier_34 : decode b_OB_multiplier 34 = .ok (.aload_n 3, 1) := by decide +kernel
theorem d_OB_multiplier_35 : decode b_OB_multiplier 35 = .ok (.iload_n 2, 1) := by decide +kernel
theorem d_OB_multiplier_36 : decode b_OB_multiplier 36 = .ok (.invokevirtual 167, 3) := by decide +kernel
theorem d_OB_multiplier_39 : decode b_OB_multiplier 39 = .ok (.ifCond .ne 13, 3) := by decide +kernel
theorem d_OB_multiplier_42 : decode b_OB_multiplier 42 = .ok (.new 39, 3) := by decide +kernel
theorem d_OB_multiplier_45 : decode b_OB_multiplier 45 = .ok (.dup, 1) := by decide +kernel
theorem d_OB_multiplier_46 : decode b_OB_multiplier 46 = .ok (.ldc 170, 2) := by decide +kernel
theorem d_OB_multiplier_48 : decode b_OB_multiplier 48 = .ok (.invokespecial 43, 3) := by decide +kernel
theorem d_OB_multiplier_51 : decode b_OB_multiplier 51 = .ok (.athrow, 1) := by decide +kernel
theorem d_OB_multiplier_52 : decode b_OB_multiplier 52 = .ok (.aload_n 3, 1) := by decide +kernel
theorem d_OB_multiplier_53 : decode b_OB_multiplier 53 = .ok (.iload_n 2, 1) := by decide +kernel
theorem d_OB_multiplier_54 : decode b_OB_multiplier 54 = .ok (.invokevirtual 172, 3) := by decide +kernel
theorem d_OB_multiplier_57 : decode b_OB_multiplier 57 = .ok (.return_, 1) := by decide +kernel
abbrev b_OB_certificate : ByteArray := prog_1_method_11_code
def y_OB_certificate : MethodName := ⟨ROB, "certificate", "()J"⟩
theorem k_OB_certificate : Cond.code y_OB_certificate b_OB_certificate 6 (some .long) ∈ tt := (tt1 153 rfl rfl)
theorem i_OB_certificate : Cond.instanceMethod y_OB_certificate ∈ tt := (tt1 151 rfl rfl)
theorem l_OB_certificate : Cond.selects ROB y_OB_certificate y_OB_certificate ∈ tt := (tt1 152 rfl rfl)
theorem d_OB_certificate_0 : decode b_OB_certificate 0 = .ok (.aload_n 0, 1) := by decide +kernel
theorem d_OB_certificate_1 : decode b_OB_certificate 1 = .ok (.getfield 19, 3) := by decide +kernel
theorem d_OB_certificate_4 : decode b_OB_certificate 4 = .ok (.invokevirtual 175, 3) := by decide +kernel
theorem d_OB_certificate_7 : decode b_OB_certificate 7 = .ok (.lstore_n 1, 1) := by decide +kernel
theorem d_OB_certificate_8 : decode b_OB_certificate 8 = .ok (.iconst 0, 1) := by decide +kernel
theorem d_OB_certificate_9 : decode b_OB_certificate 9 = .ok (.istore_n 3, 1) := by decide +kernel
theorem d_OB_certificate_10 : decode b_OB_certificate 10 = .ok (.iload_n 3, 1) := by decide +kernel
theorem d_OB_certificate_11 : decode b_OB_certificate 11 = .ok (.aload_n 0, 1) := by decide +kernel
theorem d_OB_certificate_12 : decode b_OB_certificate 12 = .ok (.getfield 10, 3) := by decide +kernel
theorem d_OB_certificate_15 : decode b_OB_certificate 15 = .ok (.invokevirtual 48, 3) := by decide +kernel
theorem d_OB_certificate_18 : decode b_OB_certificate 18 = .ok (.if_icmp .ge 55, 3) := by decide +kernel
theorem d_OB_certificate_21 : decode b_OB_certificate 21 = .ok (.ldc2_w 179, 3) := by decide +kernel
theorem d_OB_certificate_24 : decode b_OB_certificate 24 = .ok (.aload_n 0, 1) := by decide +kernel
theorem d_OB_certificate_25 : decode b_OB_certificate 25 = .ok (.getfield 10, 3) := by decide +kernel
theorem d_OB_certificate_28 : decode b_OB_certificate 28 = .ok (.iload_n 3, 1) := by decide +kernel
theorem d_OB_certificate_29 : decode b_OB_certificate 29 = .ok (.invokevirtual 181, 3) := by decide +kernel
theorem d_OB_certificate_32 : decode b_OB_certificate 32 = .ok (.i2l, 1) := by decide +kernel
theorem d_OB_certificate_33 : decode b_OB_certificate 33 = .ok (.lmul, 1) := by decide +kernel
theorem d_OB_certificate_34 : decode b_OB_certificate 34 = .ok (.aload_n 0, 1) := by decide +kernel
theorem d_OB_certificate_35 : decode b_OB_certificate 35 = .ok (.getfield 19, 3) := by decide +kernel
theorem d_OB_certificate_38 : decode b_OB_certificate 38 = .ok (.iload_n 3, 1) := by decide +kernel
theorem d_OB_certificate_39 : decode b_OB_certificate 39 = .ok (.invokevirtual 184, 3) := by decide +kernel
theorem d_OB_certificate_42 : decode b_OB_certificate 42 = .ok (.lsub, 1) := by decide +kernel
theorem d_OB_certificate_43 : decode b_OB_certificate 43 = .ok (.lstore 4, 2) := by decide +kernel
theorem d_OB_certificate_45 : decode b_OB_certificate 45 = .ok (.lload 4, 2) := by decide +kernel
theorem d_OB_certificate_47 : decode b_OB_certificate 47 = .ok (.lconst 0, 1) := by decide +kernel
theorem d_OB_certificate_48 : decode b_OB_certificate 48 = .ok (.lcmp, 1) := by decide +kernel
theorem d_OB_certificate_49 : decode b_OB_certificate 49 = .ok (.ifCond .le 18, 3) := by decide +kernel
theorem d_OB_certificate_52 : decode b_OB_certificate 52 = .ok (.lload_n 1, 1) := by decide +kernel
theorem d_OB_certificate_53 : decode b_OB_certificate 53 = .ok (.aload_n 0, 1) := by decide +kernel
theorem d_OB_certificate_54 : decode b_OB_certificate 54 = .ok (.getfield 10, 3) := by decide +kernel
theorem d_OB_certificate_57 : decode b_OB_certificate 57 = .ok (.iload_n 3, 1) := by decide +kernel
theorem d_OB_certificate_58 : decode b_OB_certificate 58 = .ok (.invokevirtual 125, 3) := by decide +kernel
theorem d_OB_certificate_61 : decode b_OB_certificate 61 = .ok (.i2l, 1) := by decide +kernel
theorem d_OB_certificate_62 : decode b_OB_certificate 62 = .ok (.lload 4, 2) := by decide +kernel
theorem d_OB_certificate_64 : decode b_OB_certificate 64 = .ok (.lmul, 1) := by decide +kernel
theorem d_OB_certificate_65 : decode b_OB_certificate 65 = .ok (.ladd, 1) := by decide +kernel
theorem d_OB_certificate_66 : decode b_OB_certificate 66 = .ok (.lstore_n 1, 1) := by decide +kernel
theorem d_OB_certificate_67 : decode b_OB_certificate 67 = .ok (.iinc 3 1, 3) := by decide +kernel
theorem d_OB_certificate_70 : decode b_OB_certificate 70 = .ok (.goto (-60), 3) := by decide +kernel
theorem d_OB_certificate_73 : decode b_OB_certificate 73 = .ok (.lload_n 1, 1) := by decide +kernel
theorem d_OB_certificate_74 : decode b_OB_certificate 74 = .ok (.ldc2_w 179, 3) := by decide +kernel
theorem d_OB_certificate_77 : decode b_OB_certificate 77 = .ok (.invokestatic 188, 3) := by decide +kernel
theorem d_OB_certificate_80 : decode b_OB_certificate 80 = .ok (.lreturn, 1) := by decide +kernel
abbrev b_OB_contradiction : ByteArray := prog_1_method_12_code
def y_OB_contradiction : MethodName := ⟨ROB, "contradiction", "()I"⟩
theorem k_OB_contradiction : Cond.code y_OB_contradiction b_OB_contradiction 2 (some .int) ∈ tt := (tt1 201 rfl rfl)
theorem i_OB_contradiction : Cond.instanceMethod y_OB_contradiction ∈ tt := (tt1 199 rfl rfl)
theorem l_OB_contradiction : Cond.selects ROB y_OB_contradiction y_OB_contradiction ∈ tt := (tt1 200 rfl rfl)
theorem d_OB_contradiction_0 : decode b_OB_contradiction 0 = .ok (.iconst 0, 1) := by decide +kernel
theorem d_OB_contradiction_1 : decode b_OB_contradiction 1 = .ok (.istore_n 1, 1) := by decide +kernel
theorem d_OB_contradiction_2 : decode b_OB_contradiction 2 = .ok (.iload_n 1, 1) := by decide +kernel
theorem d_OB_contradiction_3 : decode b_OB_contradiction 3 = .ok (.aload_n 0, 1) := by decide +kernel
theorem d_OB_contradiction_4 : decode b_OB_contradiction 4 = .ok (.getfield 19, 3) := by decide +kernel
theorem d_OB_contradiction_7 : decode b_OB_contradiction 7 = .ok (.invokevirtual 164, 3) := by decide +kernel
theorem d_OB_contradiction_10 : decode b_OB_contradiction 10 = .ok (.if_icmp .ge 29, 3) := by decide +kernel
theorem d_OB_contradiction_13 : decode b_OB_contradiction 13 = .ok (.aload_n 0, 1) := by decide +kernel
theorem d_OB_contradiction_14 : decode b_OB_contradiction 14 = .ok (.getfield 19, 3) := by decide +kernel
theorem d_OB_contradiction_17 : decode b_OB_contradiction 17 = .ok (.iload_n 1, 1) := by decide +kernel
theorem d_OB_contradiction_18 : decode b_OB_contradiction 18 = .ok (.invokevirtual 95, 3) := by decide +kernel
theorem d_OB_contradiction_21 : decode b_OB_contradiction 21 = .ok (.aload_n 0, 1) := by decide +kernel
theorem d_OB_contradiction_22 : decode b_OB_contradiction 22 = .ok (.getfield 10, 3) := by decide +kernel
theorem d_OB_contradiction_25 : decode b_OB_contradiction 25 = .ok (.invokevirtual 192, 3) := by decide +kernel
theorem d_OB_contradiction_28 : decode b_OB_contradiction 28 = .ok (.ifCond .ne 5, 3) := by decide +kernel
theorem d_OB_contradiction_31 : decode b_OB_contradiction 31 = .ok (.iload_n 1, 1) := by decide +kernel
theorem d_OB_contradiction_32 : decode b_OB_contradiction 32 = .ok (.ireturn, 1) := by decide +kernel
theorem d_OB_contradiction_33 : decode b_OB_contradiction 33 = .ok (.iinc 1 1, 3) := by decide +kernel
theorem d_OB_contradiction_36 : decode b_OB_contradiction 36 = .ok (.goto (-34), 3) := by decide +kernel
theorem d_OB_contradiction_39 : decode b_OB_contradiction 39 = .ok (.iconst (-1), 1) := by decide +kernel
theorem d_OB_contradiction_40 : decode b_OB_contradiction 40 = .ok (.ireturn, 1) := by decide +kernel
abbrev b_OB_check : ByteArray := prog_1_method_13_code
def y_OB_check : MethodName := ⟨ROB, "check", "(I)I"⟩
theorem k_OB_check : Cond.code y_OB_check b_OB_check 3 (some .int) ∈ tt := (tt1 227 rfl rfl)
theorem i_OB_check : Cond.instanceMethod y_OB_check ∈ tt := (tt1 225 rfl rfl)
theorem l_OB_check : Cond.selects ROB y_OB_check y_OB_check ∈ tt := (tt1 226 rfl rfl)
theorem d_OB_check_0 : decode b_OB_check 0 = .ok (.iconst 0, 1) := by decide +kernel
theorem d_OB_check_1 : decode b_OB_check 1 = .ok (.istore_n 2, 1) := by decide +kernel
theorem d_OB_check_2 : decode b_OB_check 2 = .ok (.iload_n 2, 1) := by decide +kernel
theorem d_OB_check_3 : decode b_OB_check 3 = .ok (.aload_n 0, 1) := by decide +kernel
theorem d_OB_check_4 : decode b_OB_check 4 = .ok (.getfield 10, 3) := by decide +kernel
theorem d_OB_check_7 : decode b_OB_check 7 = .ok (.invokevirtual 48, 3) := by decide +kernel
theorem d_OB_check_10 : decode b_OB_check 10 = .ok (.if_icmp .ge 29, 3) := by decide +kernel
theorem d_OB_check_13 : decode b_OB_check 13 = .ok (.iload_n 1, 1) := by decide +kernel
theorem d_OB_check_14 : decode b_OB_check 14 = .ok (.iload_n 2, 1) := by decide +kernel
theorem d_OB_check_15 : decode b_OB_check 15 = .ok (.invokestatic 196, 3) := by decide +kernel
theorem d_OB_check_18 : decode b_OB_check 18 = .ok (.aload_n 0, 1) := by decide +kernel
theorem d_OB_check_19 : decode b_OB_check 19 = .ok (.getfield 10, 3) := by decide +kernel
theorem d_OB_check_22 : decode b_OB_check 22 = .ok (.iload_n 2, 1) := by decide +kernel
theorem d_OB_check_23 : decode b_OB_check 23 = .ok (.invokevirtual 125, 3) := by decide +kernel
theorem d_OB_check_26 : decode b_OB_check 26 = .ok (.if_icmp .le 7, 3) := by decide +kernel
theorem d_OB_check_29 : decode b_OB_check 29 = .ok (.iconst 1, 1) := by decide +kernel
theorem d_OB_check_30 : decode b_OB_check 30 = .ok (.iload_n 2, 1) := by decide +kernel
theorem d_OB_check_31 : decode b_OB_check 31 = .ok (.iadd, 1) := by decide +kernel
theorem d_OB_check_32 : decode b_OB_check 32 = .ok (.ireturn, 1) := by decide +kernel
theorem d_OB_check_33 : decode b_OB_check 33 = .ok (.iinc 2 1, 3) := by decide +kernel
theorem d_OB_check_36 : decode b_OB_check 36 = .ok (.goto (-34), 3) := by decide +kernel
theorem d_OB_check_39 : decode b_OB_check 39 = .ok (.iconst 0, 1) := by decide +kernel
theorem d_OB_check_40 : decode b_OB_check 40 = .ok (.istore_n 2, 1) := by decide +kernel
theorem d_OB_check_41 : decode b_OB_check 41 = .ok (.iload_n 2, 1) := by decide +kernel
theorem d_OB_check_42 : decode b_OB_check 42 = .ok (.aload_n 0, 1) := by decide +kernel
theorem d_OB_check_43 : decode b_OB_check 43 = .ok (.getfield 19, 3) := by decide +kernel
theorem d_OB_check_46 : decode b_OB_check 46 = .ok (.invokevirtual 164, 3) := by decide +kernel
theorem d_OB_check_49 : decode b_OB_check 49 = .ok (.if_icmp .ge 41, 3) := by decide +kernel
theorem d_OB_check_52 : decode b_OB_check 52 = .ok (.aload_n 0, 1) := by decide +kernel
theorem d_OB_check_53 : decode b_OB_check 53 = .ok (.getfield 19, 3) := by decide +kernel
theorem d_OB_check_56 : decode b_OB_check 56 = .ok (.iload_n 2, 1) := by decide +kernel
theorem d_OB_check_57 : decode b_OB_check 57 = .ok (.invokevirtual 95, 3) := by decide +kernel
theorem d_OB_check_60 : decode b_OB_check 60 = .ok (.aload_n 0, 1) := by decide +kernel
theorem d_OB_check_61 : decode b_OB_check 61 = .ok (.iload_n 1, 1) := by decide +kernel
theorem d_OB_check_62 : decode b_OB_check 62 = .ok (.aload_n 0, 1) := by decide +kernel
theorem d_OB_check_63 : decode b_OB_check 63 = .ok (.getfield 19, 3) := by decide +kernel
theorem d_OB_check_66 : decode b_OB_check 66 = .ok (.iload_n 2, 1) := by decide +kernel
theorem d_OB_check_67 : decode b_OB_check 67 = .ok (.invokevirtual 95, 3) := by decide +kernel
theorem d_OB_check_70 : decode b_OB_check 70 = .ok (.invokevirtual 199, 3) := by decide +kernel
theorem d_OB_check_73 : decode b_OB_check 73 = .ok (.invokevirtual 203, 3) := by decide +kernel
theorem d_OB_check_76 : decode b_OB_check 76 = .ok (.ifCond .ne 8, 3) := by decide +kernel
theorem d_OB_check_79 : decode b_OB_check 79 = .ok (.bipush 101, 2) := by decide +kernel
theorem d_OB_check_81 : decode b_OB_check 81 = .ok (.iload_n 2, 1) := by decide +kernel
theorem d_OB_check_82 : decode b_OB_check 82 = .ok (.iadd, 1) := by decide +kernel
theorem d_OB_check_83 : decode b_OB_check 83 = .ok (.ireturn, 1) := by decide +kernel
theorem d_OB_check_84 : decode b_OB_check 84 = .ok (.iinc 2 1, 3) := by decide +kernel
theorem d_OB_check_87 : decode b_OB_check 87 = .ok (.goto (-46), 3) := by decide +kernel
theorem d_OB_check_90 : decode b_OB_check 90 = .ok (.iconst 0, 1) := by decide +kernel
theorem d_OB_check_91 : decode b_OB_check 91 = .ok (.ireturn, 1) := by decide +kernel
abbrev b_OB_follow : ByteArray := prog_1_method_14_code
def y_OB_follow : MethodName := ⟨ROB, "follow", "(II)I"⟩
theorem k_OB_follow : Cond.code y_OB_follow b_OB_follow 3 (some .int) ∈ tt := (tt3 102 rfl rfl)
theorem i_OB_follow : Cond.instanceMethod y_OB_follow ∈ tt := (tt3 100 rfl rfl)
theorem l_OB_follow : Cond.selects ROB y_OB_follow y_OB_follow ∈ tt := (tt3 101 rfl rfl)
theorem d_OB_follow_0 : decode b_OB_follow 0 = .ok (.aload_n 0, 1) := by decide +kernel
theorem d_OB_follow_1 : decode b_OB_follow 1 = .ok (.iload_n 1, 1) := by decide +kernel
theorem d_OB_follow_2 : decode b_OB_follow 2 = .ok (.iload_n 2, 1) := by decide +kernel
theorem d_OB_follow_3 : decode b_OB_follow 3 = .ok (.invokevirtual 109, 3) := by decide +kernel
theorem d_OB_follow_6 : decode b_OB_follow 6 = .ok (.ifCond .eq 13, 3) := by decide +kernel
theorem d_OB_follow_9 : decode b_OB_follow 9 = .ok (.new 83, 3) := by decide +kernel
theorem d_OB_follow_12 : decode b_OB_follow 12 = .ok (.dup, 1) := by decide +kernel
theorem d_OB_follow_13 : decode b_OB_follow 13 = .ok (.ldc 113, 2) := by decide +kernel
theorem d_OB_follow_15 : decode b_OB_follow 15 = .ok (.invokespecial 87, 3) := by decide +kernel
theorem d_OB_follow_18 : decode b_OB_follow 18 = .ok (.athrow, 1) := by decide +kernel
theorem d_OB_follow_19 : decode b_OB_follow 19 = .ok (.aload_n 0, 1) := by decide +kernel
theorem d_OB_follow_20 : decode b_OB_follow 20 = .ok (.getfield 35, 3) := by decide +kernel
theorem d_OB_follow_23 : decode b_OB_follow 23 = .ok (.invokevirtual 206, 3) := by decide +kernel
theorem d_OB_follow_26 : decode b_OB_follow 26 = .ok (.bipush 10, 2) := by decide +kernel
theorem d_OB_follow_28 : decode b_OB_follow 28 = .ok (.if_icmp .lt 13, 3) := by decide +kernel
theorem d_OB_follow_31 : decode b_OB_follow 31 = .ok (.new 52, 3) := by decide +kernel
theorem d_OB_follow_34 : decode b_OB_follow 34 = .ok (.dup, 1) := by decide +kernel
theorem d_OB_follow_35 : decode b_OB_follow 35 = .ok (.ldc 207, 2) := by decide +kernel
theorem d_OB_follow_37 : decode b_OB_follow 37 = .ok (.invokespecial 56, 3) := by decide +kernel
theorem d_OB_follow_40 : decode b_OB_follow 40 = .ok (.athrow, 1) := by decide +kernel
theorem d_OB_follow_41 : decode b_OB_follow 41 = .ok (.aload_n 0, 1) := by decide +kernel
theorem d_OB_follow_42 : decode b_OB_follow 42 = .ok (.getfield 35, 3) := by decide +kernel
theorem d_OB_follow_45 : decode b_OB_follow 45 = .ok (.iload_n 1, 1) := by decide +kernel
theorem d_OB_follow_46 : decode b_OB_follow 46 = .ok (.iload_n 2, 1) := by decide +kernel
theorem d_OB_follow_47 : decode b_OB_follow 47 = .ok (.invokevirtual 209, 3) := by decide +kernel
theorem d_OB_follow_50 : decode b_OB_follow 50 = .ok (.ifCond .eq 13, 3) := by decide +kernel
theorem d_OB_follow_53 : decode b_OB_follow 53 = .ok (.new 52, 3) := by decide +kernel
theorem d_OB_follow_56 : decode b_OB_follow 56 = .ok (.dup, 1) := by decide +kernel
theorem d_OB_follow_57 : decode b_OB_follow 57 = .ok (.ldc 212, 2) := by decide +kernel
theorem d_OB_follow_59 : decode b_OB_follow 59 = .ok (.invokespecial 56, 3) := by decide +kernel
theorem d_OB_follow_62 : decode b_OB_follow 62 = .ok (.athrow, 1) := by decide +kernel
theorem d_OB_follow_63 : decode b_OB_follow 63 = .ok (.aload_n 0, 1) := by decide +kernel
theorem d_OB_follow_64 : decode b_OB_follow 64 = .ok (.getfield 35, 3) := by decide +kernel
theorem d_OB_follow_67 : decode b_OB_follow 67 = .ok (.iload_n 1, 1) := by decide +kernel
theorem d_OB_follow_68 : decode b_OB_follow 68 = .ok (.iload_n 2, 1) := by decide +kernel
theorem d_OB_follow_69 : decode b_OB_follow 69 = .ok (.invokevirtual 214, 3) := by decide +kernel
theorem d_OB_follow_72 : decode b_OB_follow 72 = .ok (.ireturn, 1) := by decide +kernel
abbrev b_OB_chain : ByteArray := prog_1_method_15_code
def y_OB_chain : MethodName := ⟨ROB, "chain", "(I)I"⟩
theorem k_OB_chain : Cond.code y_OB_chain b_OB_chain 2 (some .int) ∈ tt := (tt3 126 rfl rfl)
theorem i_OB_chain : Cond.instanceMethod y_OB_chain ∈ tt := (tt3 124 rfl rfl)
theorem l_OB_chain : Cond.selects ROB y_OB_chain y_OB_chain ∈ tt := (tt3 125 rfl rfl)
theorem d_OB_chain_0 : decode b_OB_chain 0 = .ok (.iload_n 1, 1) := by decide +kernel
theorem d_OB_chain_1 : decode b_OB_chain 1 = .ok (.ifCond .ge 13, 3) := by decide +kernel
theorem d_OB_chain_4 : decode b_OB_chain 4 = .ok (.new 83, 3) := by decide +kernel
theorem d_OB_chain_7 : decode b_OB_chain 7 = .ok (.dup, 1) := by decide +kernel
theorem d_OB_chain_8 : decode b_OB_chain 8 = .ok (.ldc 215, 2) := by decide +kernel
theorem d_OB_chain_10 : decode b_OB_chain 10 = .ok (.invokespecial 87, 3) := by decide +kernel
theorem d_OB_chain_13 : decode b_OB_chain 13 = .ok (.athrow, 1) := by decide +kernel
theorem d_OB_chain_14 : decode b_OB_chain 14 = .ok (.aload_n 0, 1) := by decide +kernel
theorem d_OB_chain_15 : decode b_OB_chain 15 = .ok (.getfield 35, 3) := by decide +kernel
theorem d_OB_chain_18 : decode b_OB_chain 18 = .ok (.iload_n 1, 1) := by decide +kernel
theorem d_OB_chain_19 : decode b_OB_chain 19 = .ok (.aload_n 0, 1) := by decide +kernel
theorem d_OB_chain_20 : decode b_OB_chain 20 = .ok (.getfield 10, 3) := by decide +kernel
theorem d_OB_chain_23 : decode b_OB_chain 23 = .ok (.invokevirtual 48, 3) := by decide +kernel
theorem d_OB_chain_26 : decode b_OB_chain 26 = .ok (.invokevirtual 217, 3) := by decide +kernel
theorem d_OB_chain_29 : decode b_OB_chain 29 = .ok (.ireturn, 1) := by decide +kernel
abbrev b_OB_isNoColumn : ByteArray := prog_1_method_16_code
def y_OB_isNoColumn : MethodName := ⟨ROB, "isNoColumn", "(I)Z"⟩
theorem k_OB_isNoColumn : Cond.code y_OB_isNoColumn b_OB_isNoColumn 2 (some .boolean) ∈ tt := (tt2 180 rfl rfl)
theorem i_OB_isNoColumn : Cond.instanceMethod y_OB_isNoColumn ∈ tt := (tt2 179 rfl rfl)
theorem l_OB_isNoColumn : Cond.selects ROB y_OB_isNoColumn y_OB_isNoColumn ∈ tt := (tt0 5 rfl rfl)
theorem d_OB_isNoColumn_0 : decode b_OB_isNoColumn 0 = .ok (.iload_n 1, 1) := by decide +kernel
theorem d_OB_isNoColumn_1 : decode b_OB_isNoColumn 1 = .ok (.ifCond .lt 14, 3) := by decide +kernel
theorem d_OB_isNoColumn_4 : decode b_OB_isNoColumn 4 = .ok (.iload_n 1, 1) := by decide +kernel
theorem d_OB_isNoColumn_5 : decode b_OB_isNoColumn 5 = .ok (.aload_n 0, 1) := by decide +kernel
theorem d_OB_isNoColumn_6 : decode b_OB_isNoColumn 6 = .ok (.getfield 10, 3) := by decide +kernel
theorem d_OB_isNoColumn_9 : decode b_OB_isNoColumn 9 = .ok (.invokevirtual 48, 3) := by decide +kernel
theorem d_OB_isNoColumn_12 : decode b_OB_isNoColumn 12 = .ok (.if_icmp .lt 7, 3) := by decide +kernel
theorem d_OB_isNoColumn_15 : decode b_OB_isNoColumn 15 = .ok (.iconst 1, 1) := by decide +kernel
theorem d_OB_isNoColumn_16 : decode b_OB_isNoColumn 16 = .ok (.goto 4, 3) := by decide +kernel
theorem d_OB_isNoColumn_19 : decode b_OB_isNoColumn 19 = .ok (.iconst 0, 1) := by decide +kernel
theorem d_OB_isNoColumn_20 : decode b_OB_isNoColumn 20 = .ok (.ireturn, 1) := by decide +kernel
abbrev b_OB_isNoRow : ByteArray := prog_1_method_17_code
def y_OB_isNoRow : MethodName := ⟨ROB, "isNoRow", "(I)Z"⟩
theorem k_OB_isNoRow : Cond.code y_OB_isNoRow b_OB_isNoRow 2 (some .boolean) ∈ tt := (tt2 160 rfl rfl)
theorem i_OB_isNoRow : Cond.instanceMethod y_OB_isNoRow ∈ tt := (tt2 159 rfl rfl)
theorem l_OB_isNoRow : Cond.selects ROB y_OB_isNoRow y_OB_isNoRow ∈ tt := (tt0 4 rfl rfl)
theorem d_OB_isNoRow_0 : decode b_OB_isNoRow 0 = .ok (.iload_n 1, 1) := by decide +kernel
theorem d_OB_isNoRow_1 : decode b_OB_isNoRow 1 = .ok (.ifCond .lt 14, 3) := by decide +kernel
theorem d_OB_isNoRow_4 : decode b_OB_isNoRow 4 = .ok (.iload_n 1, 1) := by decide +kernel
theorem d_OB_isNoRow_5 : decode b_OB_isNoRow 5 = .ok (.aload_n 0, 1) := by decide +kernel
theorem d_OB_isNoRow_6 : decode b_OB_isNoRow 6 = .ok (.getfield 19, 3) := by decide +kernel
theorem d_OB_isNoRow_9 : decode b_OB_isNoRow 9 = .ok (.invokevirtual 72, 3) := by decide +kernel
theorem d_OB_isNoRow_12 : decode b_OB_isNoRow 12 = .ok (.if_icmp .lt 7, 3) := by decide +kernel
theorem d_OB_isNoRow_15 : decode b_OB_isNoRow 15 = .ok (.iconst 1, 1) := by decide +kernel
theorem d_OB_isNoRow_16 : decode b_OB_isNoRow 16 = .ok (.goto 4, 3) := by decide +kernel
theorem d_OB_isNoRow_19 : decode b_OB_isNoRow 19 = .ok (.iconst 0, 1) := by decide +kernel
theorem d_OB_isNoRow_20 : decode b_OB_isNoRow 20 = .ok (.ireturn, 1) := by decide +kernel
abbrev b_OB_isNoPair : ByteArray := prog_1_method_18_code
def y_OB_isNoPair : MethodName := ⟨ROB, "isNoPair", "(II)Z"⟩
theorem k_OB_isNoPair : Cond.code y_OB_isNoPair b_OB_isNoPair 3 (some .boolean) ∈ tt := (tt2 205 rfl rfl)
theorem i_OB_isNoPair : Cond.instanceMethod y_OB_isNoPair ∈ tt := (tt2 204 rfl rfl)
theorem l_OB_isNoPair : Cond.selects ROB y_OB_isNoPair y_OB_isNoPair ∈ tt := (tt0 6 rfl rfl)
theorem d_OB_isNoPair_0 : decode b_OB_isNoPair 0 = .ok (.aload_n 0, 1) := by decide +kernel
theorem d_OB_isNoPair_1 : decode b_OB_isNoPair 1 = .ok (.iload_n 1, 1) := by decide +kernel
theorem d_OB_isNoPair_2 : decode b_OB_isNoPair 2 = .ok (.invokevirtual 88, 3) := by decide +kernel
theorem d_OB_isNoPair_5 : decode b_OB_isNoPair 5 = .ok (.ifCond .ne 16, 3) := by decide +kernel
theorem d_OB_isNoPair_8 : decode b_OB_isNoPair 8 = .ok (.aload_n 0, 1) := by decide +kernel
theorem d_OB_isNoPair_9 : decode b_OB_isNoPair 9 = .ok (.iload_n 2, 1) := by decide +kernel
theorem d_OB_isNoPair_10 : decode b_OB_isNoPair 10 = .ok (.invokevirtual 88, 3) := by decide +kernel
theorem d_OB_isNoPair_13 : decode b_OB_isNoPair 13 = .ok (.ifCond .ne 8, 3) := by decide +kernel
theorem d_OB_isNoPair_16 : decode b_OB_isNoPair 16 = .ok (.iload_n 1, 1) := by decide +kernel
theorem d_OB_isNoPair_17 : decode b_OB_isNoPair 17 = .ok (.iload_n 2, 1) := by decide +kernel
theorem d_OB_isNoPair_18 : decode b_OB_isNoPair 18 = .ok (.if_icmp .ne 7, 3) := by decide +kernel
theorem d_OB_isNoPair_21 : decode b_OB_isNoPair 21 = .ok (.iconst 1, 1) := by decide +kernel
theorem d_OB_isNoPair_22 : decode b_OB_isNoPair 22 = .ok (.goto 4, 3) := by decide +kernel
theorem d_OB_isNoPair_25 : decode b_OB_isNoPair 25 = .ok (.iconst 0, 1) := by decide +kernel
theorem d_OB_isNoPair_26 : decode b_OB_isNoPair 26 = .ok (.ireturn, 1) := by decide +kernel
abbrev b_OB_isNoRight : ByteArray := prog_1_method_19_code
def y_OB_isNoRight : MethodName := ⟨ROB, "isNoRight", "(I)Z"⟩
theorem k_OB_isNoRight : Cond.code y_OB_isNoRight b_OB_isNoRight 1 (some .boolean) ∈ tt := (tt2 122 rfl rfl)
theorem s_OB_isNoRight : Cond.static y_OB_isNoRight ∈ tt := (tt2 121 rfl rfl)
theorem d_OB_isNoRight_0 : decode b_OB_isNoRight 0 = .ok (.iload_n 0, 1) := by decide +kernel
theorem d_OB_isNoRight_1 : decode b_OB_isNoRight 1 = .ok (.sipush (-10000), 3) := by decide +kernel
theorem d_OB_isNoRight_4 : decode b_OB_isNoRight 4 = .ok (.if_icmp .lt 10, 3) := by decide +kernel
theorem d_OB_isNoRight_7 : decode b_OB_isNoRight 7 = .ok (.iload_n 0, 1) := by decide +kernel
theorem d_OB_isNoRight_8 : decode b_OB_isNoRight 8 = .ok (.sipush 10000, 3) := by decide +kernel
theorem d_OB_isNoRight_11 : decode b_OB_isNoRight 11 = .ok (.if_icmp .le 7, 3) := by decide +kernel
theorem d_OB_isNoRight_14 : decode b_OB_isNoRight 14 = .ok (.iconst 1, 1) := by decide +kernel
theorem d_OB_isNoRight_15 : decode b_OB_isNoRight 15 = .ok (.goto 4, 3) := by decide +kernel
theorem d_OB_isNoRight_18 : decode b_OB_isNoRight 18 = .ok (.iconst 0, 1) := by decide +kernel
theorem d_OB_isNoRight_19 : decode b_OB_isNoRight 19 = .ok (.ireturn, 1) := by decide +kernel
abbrev b_OB_packedNumber : ByteArray := prog_1_method_20_code
def y_OB_packedNumber : MethodName := ⟨ROB, "packedNumber", "(II)I"⟩
theorem k_OB_packedNumber : Cond.code y_OB_packedNumber b_OB_packedNumber 2 (some .int) ∈ tt := (tt1 230 rfl rfl)
theorem s_OB_packedNumber : Cond.static y_OB_packedNumber ∈ tt := (tt1 229 rfl rfl)
theorem d_OB_packedNumber_0 : decode b_OB_packedNumber 0 = .ok (.iload_n 0, 1) := by decide +kernel
theorem d_OB_packedNumber_1 : decode b_OB_packedNumber 1 = .ok (.bipush 6, 2) := by decide +kernel
theorem d_OB_packedNumber_3 : decode b_OB_packedNumber 3 = .ok (.iload_n 1, 1) := by decide +kernel
theorem d_OB_packedNumber_4 : decode b_OB_packedNumber 4 = .ok (.imul, 1) := by decide +kernel
theorem d_OB_packedNumber_5 : decode b_OB_packedNumber 5 = .ok (.iushr, 1) := by decide +kernel
theorem d_OB_packedNumber_6 : decode b_OB_packedNumber 6 = .ok (.bipush 63, 2) := by decide +kernel
theorem d_OB_packedNumber_8 : decode b_OB_packedNumber 8 = .ok (.iand, 1) := by decide +kernel
theorem d_OB_packedNumber_9 : decode b_OB_packedNumber 9 = .ok (.ireturn, 1) := by decide +kernel
abbrev b_OB_packedSum : ByteArray := prog_1_method_21_code
def y_OB_packedSum : MethodName := ⟨ROB, "packedSum", "(ILOrderBounds$Line;)I"⟩
theorem k_OB_packedSum : Cond.code y_OB_packedSum b_OB_packedSum 5 (some .int) ∈ tt := (tt1 234 rfl rfl)
theorem i_OB_packedSum : Cond.instanceMethod y_OB_packedSum ∈ tt := (tt1 233 rfl rfl)
theorem l_OB_packedSum : Cond.selects ROB y_OB_packedSum y_OB_packedSum ∈ tt := (tt0 1 rfl rfl)
theorem d_OB_packedSum_0 : decode b_OB_packedSum 0 = .ok (.iconst 0, 1) := by decide +kernel
theorem d_OB_packedSum_1 : decode b_OB_packedSum 1 = .ok (.istore_n 3, 1) := by decide +kernel
theorem d_OB_packedSum_2 : decode b_OB_packedSum 2 = .ok (.iconst 0, 1) := by decide +kernel
theorem d_OB_packedSum_3 : decode b_OB_packedSum 3 = .ok (.istore 4, 2) := by decide +kernel
theorem d_OB_packedSum_5 : decode b_OB_packedSum 5 = .ok (.iload 4, 2) := by decide +kernel
theorem d_OB_packedSum_7 : decode b_OB_packedSum 7 = .ok (.aload_n 0, 1) := by decide +kernel
theorem d_OB_packedSum_8 : decode b_OB_packedSum 8 = .ok (.getfield 10, 3) := by decide +kernel
theorem d_OB_packedSum_11 : decode b_OB_packedSum 11 = .ok (.invokevirtual 48, 3) := by decide +kernel
theorem d_OB_packedSum_14 : decode b_OB_packedSum 14 = .ok (.if_icmp .ge 25, 3) := by decide +kernel
theorem d_OB_packedSum_17 : decode b_OB_packedSum 17 = .ok (.iload_n 3, 1) := by decide +kernel
theorem d_OB_packedSum_18 : decode b_OB_packedSum 18 = .ok (.aload_n 2, 1) := by decide +kernel
theorem d_OB_packedSum_19 : decode b_OB_packedSum 19 = .ok (.iload 4, 2) := by decide +kernel
theorem d_OB_packedSum_21 : decode b_OB_packedSum 21 = .ok (.invokevirtual 220, 3) := by decide +kernel
theorem d_OB_packedSum_24 : decode b_OB_packedSum 24 = .ok (.iload_n 1, 1) := by decide +kernel
theorem d_OB_packedSum_25 : decode b_OB_packedSum 25 = .ok (.iload 4, 2) := by decide +kernel
theorem d_OB_packedSum_27 : decode b_OB_packedSum 27 = .ok (.invokestatic 196, 3) := by decide +kernel
theorem d_OB_packedSum_30 : decode b_OB_packedSum 30 = .ok (.imul, 1) := by decide +kernel
theorem d_OB_packedSum_31 : decode b_OB_packedSum 31 = .ok (.iadd, 1) := by decide +kernel
theorem d_OB_packedSum_32 : decode b_OB_packedSum 32 = .ok (.istore_n 3, 1) := by decide +kernel
theorem d_OB_packedSum_33 : decode b_OB_packedSum 33 = .ok (.iinc 4 1, 3) := by decide +kernel
theorem d_OB_packedSum_36 : decode b_OB_packedSum 36 = .ok (.goto (-31), 3) := by decide +kernel
theorem d_OB_packedSum_39 : decode b_OB_packedSum 39 = .ok (.iload_n 3, 1) := by decide +kernel
theorem d_OB_packedSum_40 : decode b_OB_packedSum 40 = .ok (.ireturn, 1) := by decide +kernel
abbrev b_Fo_init : ByteArray := prog_3_method_1_code
def y_Fo_init : MethodName := ⟨RFo, "<init>", "()V"⟩
theorem k_Fo_init : Cond.code y_Fo_init b_Fo_init 1 none ∈ tt := (tt1 128 rfl rfl)
theorem i_Fo_init : Cond.instanceMethod y_Fo_init ∈ tt := (tt1 127 rfl rfl)
theorem d_Fo_init_0 : decode b_Fo_init 0 = .ok (.aload_n 0, 1) := by decide +kernel
theorem d_Fo_init_1 : decode b_Fo_init 1 = .ok (.invokespecial 3, 3) := by decide +kernel
theorem d_Fo_init_4 : decode b_Fo_init 4 = .ok (.aload_n 0, 1) := by decide +kernel
theorem d_Fo_init_5 : decode b_Fo_init 5 = .ok (.iconst 5, 1) := by decide +kernel
theorem d_Fo_init_6 : decode b_Fo_init 6 = .ok (.newarray .int, 2) := by decide +kernel
theorem d_Fo_init_8 : decode b_Fo_init 8 = .ok (.putfield 9, 3) := by decide +kernel
theorem d_Fo_init_11 : decode b_Fo_init 11 = .ok (.aload_n 0, 1) := by decide +kernel
theorem d_Fo_init_12 : decode b_Fo_init 12 = .ok (.iconst 0, 1) := by decide +kernel
theorem d_Fo_init_13 : decode b_Fo_init 13 = .ok (.putfield 15, 3) := by decide +kernel
theorem d_Fo_init_16 : decode b_Fo_init 16 = .ok (.return_, 1) := by decide +kernel
abbrev b_Fo_count : ByteArray := prog_3_method_2_code
def y_Fo_count : MethodName := ⟨RFo, "count", "()I"⟩
theorem k_Fo_count : Cond.code y_Fo_count b_Fo_count 1 (some .int) ∈ tt := (tt3 106 rfl rfl)
theorem i_Fo_count : Cond.instanceMethod y_Fo_count ∈ tt := (tt3 104 rfl rfl)
theorem l_Fo_count : Cond.selects RFo y_Fo_count y_Fo_count ∈ tt := (tt3 105 rfl rfl)
theorem d_Fo_count_0 : decode b_Fo_count 0 = .ok (.aload_n 0, 1) := by decide +kernel
theorem d_Fo_count_1 : decode b_Fo_count 1 = .ok (.getfield 15, 3) := by decide +kernel
theorem d_Fo_count_4 : decode b_Fo_count 4 = .ok (.ireturn, 1) := by decide +kernel
abbrev b_Fo_has : ByteArray := prog_3_method_3_code
def y_Fo_has : MethodName := ⟨RFo, "has", "(II)Z"⟩
theorem k_Fo_has : Cond.code y_Fo_has b_Fo_has 3 (some .boolean) ∈ tt := (tt3 111 rfl rfl)
theorem i_Fo_has : Cond.instanceMethod y_Fo_has ∈ tt := (tt3 109 rfl rfl)
theorem l_Fo_has : Cond.selects RFo y_Fo_has y_Fo_has ∈ tt := (tt3 110 rfl rfl)
theorem d_Fo_has_0 : decode b_Fo_has 0 = .ok (.aload_n 0, 1) := by decide +kernel
theorem d_Fo_has_1 : decode b_Fo_has 1 = .ok (.getfield 9, 3) := by decide +kernel
theorem d_Fo_has_4 : decode b_Fo_has 4 = .ok (.iload_n 1, 1) := by decide +kernel
theorem d_Fo_has_5 : decode b_Fo_has 5 = .ok (.iaload, 1) := by decide +kernel
theorem d_Fo_has_6 : decode b_Fo_has 6 = .ok (.iload_n 2, 1) := by decide +kernel
theorem d_Fo_has_7 : decode b_Fo_has 7 = .ok (.invokestatic 19, 3) := by decide +kernel
theorem d_Fo_has_10 : decode b_Fo_has 10 = .ok (.ireturn, 1) := by decide +kernel
abbrev b_Fo_add : ByteArray := prog_3_method_4_code
def y_Fo_add : MethodName := ⟨RFo, "add", "(II)I"⟩
theorem k_Fo_add : Cond.code y_Fo_add b_Fo_add 3 (some .int) ∈ tt := (tt3 119 rfl rfl)
theorem i_Fo_add : Cond.instanceMethod y_Fo_add ∈ tt := (tt3 117 rfl rfl)
theorem l_Fo_add : Cond.selects RFo y_Fo_add y_Fo_add ∈ tt := (tt3 118 rfl rfl)
theorem d_Fo_add_0 : decode b_Fo_add 0 = .ok (.aload_n 0, 1) := by decide +kernel
theorem d_Fo_add_1 : decode b_Fo_add 1 = .ok (.getfield 9, 3) := by decide +kernel
theorem d_Fo_add_4 : decode b_Fo_add 4 = .ok (.iload_n 1, 1) := by decide +kernel
theorem d_Fo_add_5 : decode b_Fo_add 5 = .ok (.dup2, 1) := by decide +kernel
theorem d_Fo_add_6 : decode b_Fo_add 6 = .ok (.iaload, 1) := by decide +kernel
theorem d_Fo_add_7 : decode b_Fo_add 7 = .ok (.iconst 1, 1) := by decide +kernel
theorem d_Fo_add_8 : decode b_Fo_add 8 = .ok (.iload_n 2, 1) := by decide +kernel
theorem d_Fo_add_9 : decode b_Fo_add 9 = .ok (.ishl, 1) := by decide +kernel
theorem d_Fo_add_10 : decode b_Fo_add 10 = .ok (.ior, 1) := by decide +kernel
theorem d_Fo_add_11 : decode b_Fo_add 11 = .ok (.iastore, 1) := by decide +kernel
theorem d_Fo_add_12 : decode b_Fo_add 12 = .ok (.aload_n 0, 1) := by decide +kernel
theorem d_Fo_add_13 : decode b_Fo_add 13 = .ok (.dup, 1) := by decide +kernel
theorem d_Fo_add_14 : decode b_Fo_add 14 = .ok (.getfield 15, 3) := by decide +kernel
theorem d_Fo_add_17 : decode b_Fo_add 17 = .ok (.iconst 1, 1) := by decide +kernel
theorem d_Fo_add_18 : decode b_Fo_add 18 = .ok (.iadd, 1) := by decide +kernel
theorem d_Fo_add_19 : decode b_Fo_add 19 = .ok (.putfield 15, 3) := by decide +kernel
theorem d_Fo_add_22 : decode b_Fo_add 22 = .ok (.aload_n 0, 1) := by decide +kernel
theorem d_Fo_add_23 : decode b_Fo_add 23 = .ok (.getfield 15, 3) := by decide +kernel
theorem d_Fo_add_26 : decode b_Fo_add 26 = .ok (.ireturn, 1) := by decide +kernel
abbrev b_Fo_longestAt : ByteArray := prog_3_method_5_code
def y_Fo_longestAt : MethodName := ⟨RFo, "longestAt", "(II)I"⟩
theorem k_Fo_longestAt : Cond.code y_Fo_longestAt b_Fo_longestAt 7 (some .int) ∈ tt := (tt3 131 rfl rfl)
theorem i_Fo_longestAt : Cond.instanceMethod y_Fo_longestAt ∈ tt := (tt3 129 rfl rfl)
theorem l_Fo_longestAt : Cond.selects RFo y_Fo_longestAt y_Fo_longestAt ∈ tt := (tt3 130 rfl rfl)
theorem d_Fo_longestAt_0 : decode b_Fo_longestAt 0 = .ok (.iload_n 1, 1) := by decide +kernel
theorem d_Fo_longestAt_1 : decode b_Fo_longestAt 1 = .ok (.iload_n 2, 1) := by decide +kernel
theorem d_Fo_longestAt_2 : decode b_Fo_longestAt 2 = .ok (.if_icmp .lt 5, 3) := by decide +kernel
theorem d_Fo_longestAt_5 : decode b_Fo_longestAt 5 = .ok (.iconst (-1), 1) := by decide +kernel
theorem d_Fo_longestAt_6 : decode b_Fo_longestAt 6 = .ok (.ireturn, 1) := by decide +kernel
theorem d_Fo_longestAt_7 : decode b_Fo_longestAt 7 = .ok (.iconst 0, 1) := by decide +kernel
theorem d_Fo_longestAt_8 : decode b_Fo_longestAt 8 = .ok (.istore_n 3, 1) := by decide +kernel
theorem d_Fo_longestAt_9 : decode b_Fo_longestAt 9 = .ok (.iconst 1, 1) := by decide +kernel
theorem d_Fo_longestAt_10 : decode b_Fo_longestAt 10 = .ok (.iload_n 2, 1) := by decide +kernel
theorem d_Fo_longestAt_11 : decode b_Fo_longestAt 11 = .ok (.ishl, 1) := by decide +kernel
theorem d_Fo_longestAt_12 : decode b_Fo_longestAt 12 = .ok (.iconst 1, 1) := by decide +kernel
theorem d_Fo_longestAt_13 : decode b_Fo_longestAt 13 = .ok (.isub, 1) := by decide +kernel
theorem d_Fo_longestAt_14 : decode b_Fo_longestAt 14 = .ok (.istore 4, 2) := by decide +kernel
theorem d_Fo_longestAt_16 : decode b_Fo_longestAt 16 = .ok (.iconst (-1), 1) := by decide +kernel
theorem d_Fo_longestAt_17 : decode b_Fo_longestAt 17 = .ok (.istore 5, 2) := by decide +kernel
theorem d_Fo_longestAt_19 : decode b_Fo_longestAt 19 = .ok (.iconst 0, 1) := by decide +kernel
theorem d_Fo_longestAt_20 : decode b_Fo_longestAt 20 = .ok (.istore 6, 2) := by decide +kernel
theorem d_Fo_longestAt_22 : decode b_Fo_longestAt 22 = .ok (.iload 6, 2) := by decide +kernel
theorem d_Fo_longestAt_24 : decode b_Fo_longestAt 24 = .ok (.iload_n 1, 1) := by decide +kernel
theorem d_Fo_longestAt_25 : decode b_Fo_longestAt 25 = .ok (.if_icmp .gt 48, 3) := by decide +kernel
theorem d_Fo_longestAt_28 : decode b_Fo_longestAt 28 = .ok (.aload_n 0, 1) := by decide +kernel
theorem d_Fo_longestAt_29 : decode b_Fo_longestAt 29 = .ok (.getfield 9, 3) := by decide +kernel
theorem d_Fo_longestAt_32 : decode b_Fo_longestAt 32 = .ok (.iload 4, 2) := by decide +kernel
theorem d_Fo_longestAt_34 : decode b_Fo_longestAt 34 = .ok (.iload_n 3, 1) := by decide +kernel
theorem d_Fo_longestAt_35 : decode b_Fo_longestAt 35 = .ok (.invokestatic 23, 3) := by decide +kernel
theorem d_Fo_longestAt_38 : decode b_Fo_longestAt 38 = .ok (.istore 5, 2) := by decide +kernel
theorem d_Fo_longestAt_40 : decode b_Fo_longestAt 40 = .ok (.iload 5, 2) := by decide +kernel
theorem d_Fo_longestAt_42 : decode b_Fo_longestAt 42 = .ok (.ifCond .ge 5, 3) := by decide +kernel
theorem d_Fo_longestAt_45 : decode b_Fo_longestAt 45 = .ok (.iconst (-1), 1) := by decide +kernel
theorem d_Fo_longestAt_46 : decode b_Fo_longestAt 46 = .ok (.ireturn, 1) := by decide +kernel
theorem d_Fo_longestAt_47 : decode b_Fo_longestAt 47 = .ok (.iload_n 3, 1) := by decide +kernel
theorem d_Fo_longestAt_48 : decode b_Fo_longestAt 48 = .ok (.iconst 1, 1) := by decide +kernel
theorem d_Fo_longestAt_49 : decode b_Fo_longestAt 49 = .ok (.iload 5, 2) := by decide +kernel
theorem d_Fo_longestAt_51 : decode b_Fo_longestAt 51 = .ok (.ishl, 1) := by decide +kernel
theorem d_Fo_longestAt_52 : decode b_Fo_longestAt 52 = .ok (.ior, 1) := by decide +kernel
theorem d_Fo_longestAt_53 : decode b_Fo_longestAt 53 = .ok (.istore_n 3, 1) := by decide +kernel
theorem d_Fo_longestAt_54 : decode b_Fo_longestAt 54 = .ok (.aload_n 0, 1) := by decide +kernel
theorem d_Fo_longestAt_55 : decode b_Fo_longestAt 55 = .ok (.getfield 9, 3) := by decide +kernel
theorem d_Fo_longestAt_58 : decode b_Fo_longestAt 58 = .ok (.iload 5, 2) := by decide +kernel
theorem d_Fo_longestAt_60 : decode b_Fo_longestAt 60 = .ok (.iaload, 1) := by decide +kernel
theorem d_Fo_longestAt_61 : decode b_Fo_longestAt 61 = .ok (.iload_n 3, 1) := by decide +kernel
theorem d_Fo_longestAt_62 : decode b_Fo_longestAt 62 = .ok (.iconst (-1), 1) := by decide +kernel
theorem d_Fo_longestAt_63 : decode b_Fo_longestAt 63 = .ok (.ixor, 1) := by decide +kernel
theorem d_Fo_longestAt_64 : decode b_Fo_longestAt 64 = .ok (.iand, 1) := by decide +kernel
theorem d_Fo_longestAt_65 : decode b_Fo_longestAt 65 = .ok (.istore 4, 2) := by decide +kernel
theorem d_Fo_longestAt_67 : decode b_Fo_longestAt 67 = .ok (.iinc 6 1, 3) := by decide +kernel
theorem d_Fo_longestAt_70 : decode b_Fo_longestAt 70 = .ok (.goto (-48), 3) := by decide +kernel
theorem d_Fo_longestAt_73 : decode b_Fo_longestAt 73 = .ok (.iload 5, 2) := by decide +kernel
theorem d_Fo_longestAt_75 : decode b_Fo_longestAt 75 = .ok (.ireturn, 1) := by decide +kernel
abbrev b_Fo_bestChoice : ByteArray := prog_3_method_6_code
def y_Fo_bestChoice : MethodName := ⟨RFo, "bestChoice", "([III)I"⟩
theorem k_Fo_bestChoice : Cond.code y_Fo_bestChoice b_Fo_bestChoice 7 (some .int) ∈ tt := (tt3 134 rfl rfl)
theorem s_Fo_bestChoice : Cond.static y_Fo_bestChoice ∈ tt := (tt3 133 rfl rfl)
theorem d_Fo_bestChoice_0 : decode b_Fo_bestChoice 0 = .ok (.iconst (-1), 1) := by decide +kernel
theorem d_Fo_bestChoice_1 : decode b_Fo_bestChoice 1 = .ok (.istore_n 3, 1) := by decide +kernel
theorem d_Fo_bestChoice_2 : decode b_Fo_bestChoice 2 = .ok (.iconst 0, 1) := by decide +kernel
theorem d_Fo_bestChoice_3 : decode b_Fo_bestChoice 3 = .ok (.istore 4, 2) := by decide +kernel
theorem d_Fo_bestChoice_5 : decode b_Fo_bestChoice 5 = .ok (.iconst 0, 1) := by decide +kernel
theorem d_Fo_bestChoice_6 : decode b_Fo_bestChoice 6 = .ok (.istore 5, 2) := by decide +kernel
theorem d_Fo_bestChoice_8 : decode b_Fo_bestChoice 8 = .ok (.iload 5, 2) := by decide +kernel
theorem d_Fo_bestChoice_10 : decode b_Fo_bestChoice 10 = .ok (.iconst 5, 1) := by decide +kernel
theorem d_Fo_bestChoice_11 : decode b_Fo_bestChoice 11 = .ok (.if_icmp .ge 46, 3) := by decide +kernel
theorem d_Fo_bestChoice_14 : decode b_Fo_bestChoice 14 = .ok (.iload_n 1, 1) := by decide +kernel
theorem d_Fo_bestChoice_15 : decode b_Fo_bestChoice 15 = .ok (.iload 5, 2) := by decide +kernel
theorem d_Fo_bestChoice_17 : decode b_Fo_bestChoice 17 = .ok (.invokestatic 19, 3) := by decide +kernel
theorem d_Fo_bestChoice_20 : decode b_Fo_bestChoice 20 = .ok (.ifCond .eq 14, 3) := by decide +kernel
theorem d_Fo_bestChoice_23 : decode b_Fo_bestChoice 23 = .ok (.aload_n 0, 1) := by decide +kernel
theorem d_Fo_bestChoice_24 : decode b_Fo_bestChoice 24 = .ok (.iload 5, 2) := by decide +kernel
theorem d_Fo_bestChoice_26 : decode b_Fo_bestChoice 26 = .ok (.iload_n 2, 1) := by decide +kernel
theorem d_Fo_bestChoice_27 : decode b_Fo_bestChoice 27 = .ok (.iconst 0, 1) := by decide +kernel
theorem d_Fo_bestChoice_28 : decode b_Fo_bestChoice 28 = .ok (.invokestatic 27, 3) := by decide +kernel
theorem d_Fo_bestChoice_31 : decode b_Fo_bestChoice 31 = .ok (.goto 4, 3) := by decide +kernel
theorem d_Fo_bestChoice_34 : decode b_Fo_bestChoice 34 = .ok (.iconst 0, 1) := by decide +kernel
theorem d_Fo_bestChoice_35 : decode b_Fo_bestChoice 35 = .ok (.istore 6, 2) := by decide +kernel
theorem d_Fo_bestChoice_37 : decode b_Fo_bestChoice 37 = .ok (.iload 6, 2) := by decide +kernel
theorem d_Fo_bestChoice_39 : decode b_Fo_bestChoice 39 = .ok (.iload 4, 2) := by decide +kernel
theorem d_Fo_bestChoice_41 : decode b_Fo_bestChoice 41 = .ok (.if_icmp .le 10, 3) := by decide +kernel
theorem d_Fo_bestChoice_44 : decode b_Fo_bestChoice 44 = .ok (.iload 6, 2) := by decide +kernel
theorem d_Fo_bestChoice_46 : decode b_Fo_bestChoice 46 = .ok (.istore 4, 2) := by decide +kernel
theorem d_Fo_bestChoice_48 : decode b_Fo_bestChoice 48 = .ok (.iload 5, 2) := by decide +kernel
theorem d_Fo_bestChoice_50 : decode b_Fo_bestChoice 50 = .ok (.istore_n 3, 1) := by decide +kernel
theorem d_Fo_bestChoice_51 : decode b_Fo_bestChoice 51 = .ok (.iinc 5 1, 3) := by decide +kernel
theorem d_Fo_bestChoice_54 : decode b_Fo_bestChoice 54 = .ok (.goto (-46), 3) := by decide +kernel
theorem d_Fo_bestChoice_57 : decode b_Fo_bestChoice 57 = .ok (.iload_n 3, 1) := by decide +kernel
theorem d_Fo_bestChoice_58 : decode b_Fo_bestChoice 58 = .ok (.ireturn, 1) := by decide +kernel
abbrev b_Fo_longestFrom : ByteArray := prog_3_method_7_code
def y_Fo_longestFrom : MethodName := ⟨RFo, "longestFrom", "([IIII)I"⟩
theorem k_Fo_longestFrom : Cond.code y_Fo_longestFrom b_Fo_longestFrom 7 (some .int) ∈ tt := (tt3 137 rfl rfl)
theorem s_Fo_longestFrom : Cond.static y_Fo_longestFrom ∈ tt := (tt3 136 rfl rfl)
theorem d_Fo_longestFrom_0 : decode b_Fo_longestFrom 0 = .ok (.iload_n 3, 1) := by decide +kernel
theorem d_Fo_longestFrom_1 : decode b_Fo_longestFrom 1 = .ok (.iconst 5, 1) := by decide +kernel
theorem d_Fo_longestFrom_2 : decode b_Fo_longestFrom 2 = .ok (.if_icmp .lt 5, 3) := by decide +kernel
theorem d_Fo_longestFrom_5 : decode b_Fo_longestFrom 5 = .ok (.iconst 0, 1) := by decide +kernel
theorem d_Fo_longestFrom_6 : decode b_Fo_longestFrom 6 = .ok (.ireturn, 1) := by decide +kernel
theorem d_Fo_longestFrom_7 : decode b_Fo_longestFrom 7 = .ok (.iload_n 2, 1) := by decide +kernel
theorem d_Fo_longestFrom_8 : decode b_Fo_longestFrom 8 = .ok (.iconst 1, 1) := by decide +kernel
theorem d_Fo_longestFrom_9 : decode b_Fo_longestFrom 9 = .ok (.iload_n 1, 1) := by decide +kernel
theorem d_Fo_longestFrom_10 : decode b_Fo_longestFrom 10 = .ok (.ishl, 1) := by decide +kernel
theorem d_Fo_longestFrom_11 : decode b_Fo_longestFrom 11 = .ok (.ior, 1) := by decide +kernel
theorem d_Fo_longestFrom_12 : decode b_Fo_longestFrom 12 = .ok (.istore 4, 2) := by decide +kernel
theorem d_Fo_longestFrom_14 : decode b_Fo_longestFrom 14 = .ok (.iconst 0, 1) := by decide +kernel
theorem d_Fo_longestFrom_15 : decode b_Fo_longestFrom 15 = .ok (.istore 5, 2) := by decide +kernel
theorem d_Fo_longestFrom_17 : decode b_Fo_longestFrom 17 = .ok (.iconst 0, 1) := by decide +kernel
theorem d_Fo_longestFrom_18 : decode b_Fo_longestFrom 18 = .ok (.istore 6, 2) := by decide +kernel
theorem d_Fo_longestFrom_20 : decode b_Fo_longestFrom 20 = .ok (.iload 6, 2) := by decide +kernel
theorem d_Fo_longestFrom_22 : decode b_Fo_longestFrom 22 = .ok (.iconst 5, 1) := by decide +kernel
theorem d_Fo_longestFrom_23 : decode b_Fo_longestFrom 23 = .ok (.if_icmp .ge 43, 3) := by decide +kernel
theorem d_Fo_longestFrom_26 : decode b_Fo_longestFrom 26 = .ok (.aload_n 0, 1) := by decide +kernel
theorem d_Fo_longestFrom_27 : decode b_Fo_longestFrom 27 = .ok (.iload_n 1, 1) := by decide +kernel
theorem d_Fo_longestFrom_28 : decode b_Fo_longestFrom 28 = .ok (.iaload, 1) := by decide +kernel
theorem d_Fo_longestFrom_29 : decode b_Fo_longestFrom 29 = .ok (.iload 4, 2) := by decide +kernel
theorem d_Fo_longestFrom_31 : decode b_Fo_longestFrom 31 = .ok (.iconst (-1), 1) := by decide +kernel
theorem d_Fo_longestFrom_32 : decode b_Fo_longestFrom 32 = .ok (.ixor, 1) := by decide +kernel
theorem d_Fo_longestFrom_33 : decode b_Fo_longestFrom 33 = .ok (.iand, 1) := by decide +kernel
theorem d_Fo_longestFrom_34 : decode b_Fo_longestFrom 34 = .ok (.iload 6, 2) := by decide +kernel
theorem d_Fo_longestFrom_36 : decode b_Fo_longestFrom 36 = .ok (.invokestatic 19, 3) := by decide +kernel
theorem d_Fo_longestFrom_39 : decode b_Fo_longestFrom 39 = .ok (.ifCond .eq 21, 3) := by decide +kernel
theorem d_Fo_longestFrom_42 : decode b_Fo_longestFrom 42 = .ok (.iload 5, 2) := by decide +kernel
theorem d_Fo_longestFrom_44 : decode b_Fo_longestFrom 44 = .ok (.aload_n 0, 1) := by decide +kernel
theorem d_Fo_longestFrom_45 : decode b_Fo_longestFrom 45 = .ok (.iload 6, 2) := by decide +kernel
theorem d_Fo_longestFrom_47 : decode b_Fo_longestFrom 47 = .ok (.iload 4, 2) := by decide +kernel
theorem d_Fo_longestFrom_49 : decode b_Fo_longestFrom 49 = .ok (.iload_n 3, 1) := by decide +kernel
theorem d_Fo_longestFrom_50 : decode b_Fo_longestFrom 50 = .ok (.iconst 1, 1) := by decide +kernel
theorem d_Fo_longestFrom_51 : decode b_Fo_longestFrom 51 = .ok (.iadd, 1) := by decide +kernel
theorem d_Fo_longestFrom_52 : decode b_Fo_longestFrom 52 = .ok (.invokestatic 27, 3) := by decide +kernel
theorem d_Fo_longestFrom_55 : decode b_Fo_longestFrom 55 = .ok (.invokestatic 31, 3) := by decide +kernel
theorem d_Fo_longestFrom_58 : decode b_Fo_longestFrom 58 = .ok (.istore 5, 2) := by decide +kernel
theorem d_Fo_longestFrom_60 : decode b_Fo_longestFrom 60 = .ok (.iinc 6 1, 3) := by decide +kernel
theorem d_Fo_longestFrom_63 : decode b_Fo_longestFrom 63 = .ok (.goto (-43), 3) := by decide +kernel
theorem d_Fo_longestFrom_66 : decode b_Fo_longestFrom 66 = .ok (.iload 5, 2) := by decide +kernel
theorem d_Fo_longestFrom_68 : decode b_Fo_longestFrom 68 = .ok (.iconst 1, 1) := by decide +kernel
theorem d_Fo_longestFrom_69 : decode b_Fo_longestFrom 69 = .ok (.iadd, 1) := by decide +kernel
theorem d_Fo_longestFrom_70 : decode b_Fo_longestFrom 70 = .ok (.ireturn, 1) := by decide +kernel
abbrev b_Fo_hasBit : ByteArray := prog_3_method_8_code
def y_Fo_hasBit : MethodName := ⟨RFo, "hasBit", "(II)Z"⟩
theorem k_Fo_hasBit : Cond.code y_Fo_hasBit b_Fo_hasBit 2 (some .boolean) ∈ tt := (tt3 114 rfl rfl)
theorem s_Fo_hasBit : Cond.static y_Fo_hasBit ∈ tt := (tt3 113 rfl rfl)
theorem d_Fo_hasBit_0 : decode b_Fo_hasBit 0 = .ok (.iload_n 0, 1) := by decide +kernel
theorem d_Fo_hasBit_1 : decode b_Fo_hasBit 1 = .ok (.iload_n 1, 1) := by decide +kernel
theorem d_Fo_hasBit_2 : decode b_Fo_hasBit 2 = .ok (.ishr, 1) := by decide +kernel
theorem d_Fo_hasBit_3 : decode b_Fo_hasBit 3 = .ok (.iconst 1, 1) := by decide +kernel
theorem d_Fo_hasBit_4 : decode b_Fo_hasBit 4 = .ok (.iand, 1) := by decide +kernel
theorem d_Fo_hasBit_5 : decode b_Fo_hasBit 5 = .ok (.iconst 1, 1) := by decide +kernel
theorem d_Fo_hasBit_6 : decode b_Fo_hasBit 6 = .ok (.if_icmp .ne 7, 3) := by decide +kernel
theorem d_Fo_hasBit_9 : decode b_Fo_hasBit 9 = .ok (.iconst 1, 1) := by decide +kernel
theorem d_Fo_hasBit_10 : decode b_Fo_hasBit 10 = .ok (.goto 4, 3) := by decide +kernel
theorem d_Fo_hasBit_13 : decode b_Fo_hasBit 13 = .ok (.iconst 0, 1) := by decide +kernel
theorem d_Fo_hasBit_14 : decode b_Fo_hasBit 14 = .ok (.ireturn, 1) := by decide +kernel
abbrev b_Se_init : ByteArray := prog_6_method_1_code
def y_Se_init : MethodName := ⟨RSe, "<init>", "(LOrderBounds$Columns;LOrderBounds$Lines;)V"⟩
theorem k_Se_init : Cond.code y_Se_init b_Se_init 3 none ∈ tt := (tt1 91 rfl rfl)
theorem i_Se_init : Cond.instanceMethod y_Se_init ∈ tt := (tt1 90 rfl rfl)
theorem d_Se_init_0 : decode b_Se_init 0 = .ok (.aload_n 0, 1) := by decide +kernel
theorem d_Se_init_1 : decode b_Se_init 1 = .ok (.invokespecial 3, 3) := by decide +kernel
theorem d_Se_init_4 : decode b_Se_init 4 = .ok (.aload_n 0, 1) := by decide +kernel
theorem d_Se_init_5 : decode b_Se_init 5 = .ok (.iconst 5, 1) := by decide +kernel
theorem d_Se_init_6 : decode b_Se_init 6 = .ok (.newarray .int, 2) := by decide +kernel
theorem d_Se_init_8 : decode b_Se_init 8 = .ok (.putfield 9, 3) := by decide +kernel
theorem d_Se_init_11 : decode b_Se_init 11 = .ok (.aload_n 0, 1) := by decide +kernel
theorem d_Se_init_12 : decode b_Se_init 12 = .ok (.iconst 5, 1) := by decide +kernel
theorem d_Se_init_13 : decode b_Se_init 13 = .ok (.newarray .int, 2) := by decide +kernel
theorem d_Se_init_15 : decode b_Se_init 15 = .ok (.putfield 15, 3) := by decide +kernel
theorem d_Se_init_18 : decode b_Se_init 18 = .ok (.aload_n 0, 1) := by decide +kernel
theorem d_Se_init_19 : decode b_Se_init 19 = .ok (.bipush 6, 2) := by decide +kernel
theorem d_Se_init_21 : decode b_Se_init 21 = .ok (.newarray .int, 2) := by decide +kernel
theorem d_Se_init_23 : decode b_Se_init 23 = .ok (.putfield 18, 3) := by decide +kernel
theorem d_Se_init_26 : decode b_Se_init 26 = .ok (.aload_n 0, 1) := by decide +kernel
theorem d_Se_init_27 : decode b_Se_init 27 = .ok (.bipush 6, 2) := by decide +kernel
theorem d_Se_init_29 : decode b_Se_init 29 = .ok (.newarray .int, 2) := by decide +kernel
theorem d_Se_init_31 : decode b_Se_init 31 = .ok (.putfield 21, 3) := by decide +kernel
theorem d_Se_init_34 : decode b_Se_init 34 = .ok (.aload_n 0, 1) := by decide +kernel
theorem d_Se_init_35 : decode b_Se_init 35 = .ok (.iconst 0, 1) := by decide +kernel
theorem d_Se_init_36 : decode b_Se_init 36 = .ok (.putfield 24, 3) := by decide +kernel
theorem d_Se_init_39 : decode b_Se_init 39 = .ok (.aload_n 0, 1) := by decide +kernel
theorem d_Se_init_40 : decode b_Se_init 40 = .ok (.iconst 0, 1) := by decide +kernel
theorem d_Se_init_41 : decode b_Se_init 41 = .ok (.putfield 28, 3) := by decide +kernel
theorem d_Se_init_44 : decode b_Se_init 44 = .ok (.aload_n 0, 1) := by decide +kernel
theorem d_Se_init_45 : decode b_Se_init 45 = .ok (.iconst 0, 1) := by decide +kernel
theorem d_Se_init_46 : decode b_Se_init 46 = .ok (.putfield 31, 3) := by decide +kernel
theorem d_Se_init_49 : decode b_Se_init 49 = .ok (.aload_n 0, 1) := by decide +kernel
theorem d_Se_init_50 : decode b_Se_init 50 = .ok (.iconst 0, 1) := by decide +kernel
theorem d_Se_init_51 : decode b_Se_init 51 = .ok (.putfield 35, 3) := by decide +kernel
theorem d_Se_init_54 : decode b_Se_init 54 = .ok (.aload_n 0, 1) := by decide +kernel
theorem d_Se_init_55 : decode b_Se_init 55 = .ok (.aload_n 1, 1) := by decide +kernel
theorem d_Se_init_56 : decode b_Se_init 56 = .ok (.putfield 38, 3) := by decide +kernel
theorem d_Se_init_59 : decode b_Se_init 59 = .ok (.aload_n 0, 1) := by decide +kernel
theorem d_Se_init_60 : decode b_Se_init 60 = .ok (.aload_n 2, 1) := by decide +kernel
theorem d_Se_init_61 : decode b_Se_init 61 = .ok (.putfield 42, 3) := by decide +kernel
theorem d_Se_init_64 : decode b_Se_init 64 = .ok (.return_, 1) := by decide +kernel
abbrev b_Se_stepsGiven : ByteArray := prog_6_method_2_code
def y_Se_stepsGiven : MethodName := ⟨RSe, "stepsGiven", "()I"⟩
theorem k_Se_stepsGiven : Cond.code y_Se_stepsGiven b_Se_stepsGiven 1 (some .int) ∈ tt := (tt3 44 rfl rfl)
theorem i_Se_stepsGiven : Cond.instanceMethod y_Se_stepsGiven ∈ tt := (tt3 42 rfl rfl)
theorem l_Se_stepsGiven : Cond.selects RSe y_Se_stepsGiven y_Se_stepsGiven ∈ tt := (tt3 43 rfl rfl)
theorem d_Se_stepsGiven_0 : decode b_Se_stepsGiven 0 = .ok (.aload_n 0, 1) := by decide +kernel
theorem d_Se_stepsGiven_1 : decode b_Se_stepsGiven 1 = .ok (.getfield 28, 3) := by decide +kernel
theorem d_Se_stepsGiven_4 : decode b_Se_stepsGiven 4 = .ok (.ireturn, 1) := by decide +kernel
abbrev b_Se_hasFound : ByteArray := prog_6_method_3_code
def y_Se_hasFound : MethodName := ⟨RSe, "hasFound", "()Z"⟩
theorem k_Se_hasFound : Cond.code y_Se_hasFound b_Se_hasFound 1 (some .boolean) ∈ tt := (tt3 48 rfl rfl)
theorem i_Se_hasFound : Cond.instanceMethod y_Se_hasFound ∈ tt := (tt3 46 rfl rfl)
theorem l_Se_hasFound : Cond.selects RSe y_Se_hasFound y_Se_hasFound ∈ tt := (tt3 47 rfl rfl)
theorem d_Se_hasFound_0 : decode b_Se_hasFound 0 = .ok (.aload_n 0, 1) := by decide +kernel
theorem d_Se_hasFound_1 : decode b_Se_hasFound 1 = .ok (.getfield 31, 3) := by decide +kernel
theorem d_Se_hasFound_4 : decode b_Se_hasFound 4 = .ok (.ireturn, 1) := by decide +kernel
abbrev b_Se_bestWorth : ByteArray := prog_6_method_4_code
def y_Se_bestWorth : MethodName := ⟨RSe, "bestWorth", "()I"⟩
theorem k_Se_bestWorth : Cond.code y_Se_bestWorth b_Se_bestWorth 1 (some .int) ∈ tt := (tt3 68 rfl rfl)
theorem i_Se_bestWorth : Cond.instanceMethod y_Se_bestWorth ∈ tt := (tt3 66 rfl rfl)
theorem l_Se_bestWorth : Cond.selects RSe y_Se_bestWorth y_Se_bestWorth ∈ tt := (tt3 67 rfl rfl)
theorem d_Se_bestWorth_0 : decode b_Se_bestWorth 0 = .ok (.aload_n 0, 1) := by decide +kernel
theorem d_Se_bestWorth_1 : decode b_Se_bestWorth 1 = .ok (.getfield 35, 3) := by decide +kernel
theorem d_Se_bestWorth_4 : decode b_Se_bestWorth 4 = .ok (.ireturn, 1) := by decide +kernel
abbrev b_Se_bestNumber : ByteArray := prog_6_method_5_code
def y_Se_bestNumber : MethodName := ⟨RSe, "bestNumber", "(I)I"⟩
theorem k_Se_bestNumber : Cond.code y_Se_bestNumber b_Se_bestNumber 2 (some .int) ∈ tt := (tt3 79 rfl rfl)
theorem i_Se_bestNumber : Cond.instanceMethod y_Se_bestNumber ∈ tt := (tt3 77 rfl rfl)
theorem l_Se_bestNumber : Cond.selects RSe y_Se_bestNumber y_Se_bestNumber ∈ tt := (tt3 78 rfl rfl)
theorem d_Se_bestNumber_0 : decode b_Se_bestNumber 0 = .ok (.aload_n 0, 1) := by decide +kernel
theorem d_Se_bestNumber_1 : decode b_Se_bestNumber 1 = .ok (.getfield 15, 3) := by decide +kernel
theorem d_Se_bestNumber_4 : decode b_Se_bestNumber 4 = .ok (.iload_n 1, 1) := by decide +kernel
theorem d_Se_bestNumber_5 : decode b_Se_bestNumber 5 = .ok (.iaload, 1) := by decide +kernel
theorem d_Se_bestNumber_6 : decode b_Se_bestNumber 6 = .ok (.ireturn, 1) := by decide +kernel
abbrev b_Se_begin : ByteArray := prog_6_method_6_code
def y_Se_begin : MethodName := ⟨RSe, "begin", "()V"⟩
theorem k_Se_begin : Cond.code y_Se_begin b_Se_begin 3 none ∈ tt := (tt2 99 rfl rfl)
theorem i_Se_begin : Cond.instanceMethod y_Se_begin ∈ tt := (tt2 97 rfl rfl)
theorem l_Se_begin : Cond.selects RSe y_Se_begin y_Se_begin ∈ tt := (tt2 98 rfl rfl)
theorem d_Se_begin_0 : decode b_Se_begin 0 = .ok (.aload_n 0, 1) := by decide +kernel
theorem d_Se_begin_1 : decode b_Se_begin 1 = .ok (.getfield 38, 3) := by decide +kernel
theorem d_Se_begin_4 : decode b_Se_begin 4 = .ok (.invokevirtual 46, 3) := by decide +kernel
theorem d_Se_begin_7 : decode b_Se_begin 7 = .ok (.istore_n 1, 1) := by decide +kernel
theorem d_Se_begin_8 : decode b_Se_begin 8 = .ok (.aload_n 0, 1) := by decide +kernel
theorem d_Se_begin_9 : decode b_Se_begin 9 = .ok (.getfield 21, 3) := by decide +kernel
theorem d_Se_begin_12 : decode b_Se_begin 12 = .ok (.iload_n 1, 1) := by decide +kernel
theorem d_Se_begin_13 : decode b_Se_begin 13 = .ok (.iconst 0, 1) := by decide +kernel
theorem d_Se_begin_14 : decode b_Se_begin 14 = .ok (.iastore, 1) := by decide +kernel
theorem d_Se_begin_15 : decode b_Se_begin 15 = .ok (.iload_n 1, 1) := by decide +kernel
theorem d_Se_begin_16 : decode b_Se_begin 16 = .ok (.iconst 1, 1) := by decide +kernel
theorem d_Se_begin_17 : decode b_Se_begin 17 = .ok (.isub, 1) := by decide +kernel
theorem d_Se_begin_18 : decode b_Se_begin 18 = .ok (.istore_n 2, 1) := by decide +kernel
theorem d_Se_begin_19 : decode b_Se_begin 19 = .ok (.iload_n 2, 1) := by decide +kernel
theorem d_Se_begin_20 : decode b_Se_begin 20 = .ok (.ifCond .lt 45, 3) := by decide +kernel
theorem d_Se_begin_23 : decode b_Se_begin 23 = .ok (.aload_n 0, 1) := by decide +kernel
theorem d_Se_begin_24 : decode b_Se_begin 24 = .ok (.getfield 21, 3) := by decide +kernel
theorem d_Se_begin_27 : decode b_Se_begin 27 = .ok (.iload_n 2, 1) := by decide +kernel
theorem d_Se_begin_28 : decode b_Se_begin 28 = .ok (.aload_n 0, 1) := by decide +kernel
theorem d_Se_begin_29 : decode b_Se_begin 29 = .ok (.getfield 21, 3) := by decide +kernel
theorem d_Se_begin_32 : decode b_Se_begin 32 = .ok (.iload_n 2, 1) := by decide +kernel
theorem d_Se_begin_33 : decode b_Se_begin 33 = .ok (.iconst 1, 1) := by decide +kernel
theorem d_Se_begin_34 : decode b_Se_begin 34 = .ok (.iadd, 1) := by decide +kernel
theorem d_Se_begin_35 : decode b_Se_begin 35 = .ok (.iaload, 1) := by decide +kernel
theorem d_Se_begin_36 : decode b_Se_begin 36 = .ok (.aload_n 0, 1) := by decide +kernel
theorem d_Se_begin_37 : decode b_Se_begin 37 = .ok (.getfield 38, 3) := by decide +kernel
theorem d_Se_begin_40 : decode b_Se_begin 40 = .ok (.iload_n 2, 1) := by decide +kernel
theorem d_Se_begin_41 : decode b_Se_begin 41 = .ok (.invokevirtual 52, 3) := by decide +kernel
theorem d_Se_begin_44 : decode b_Se_begin 44 = .ok (.aload_n 0, 1) := by decide +kernel
theorem d_Se_begin_45 : decode b_Se_begin 45 = .ok (.getfield 38, 3) := by decide +kernel
theorem d_Se_begin_48 : decode b_Se_begin 48 = .ok (.iload_n 2, 1) := by decide +kernel
theorem d_Se_begin_49 : decode b_Se_begin 49 = .ok (.invokevirtual 56, 3) := by decide +kernel
theorem d_Se_begin_52 : decode b_Se_begin 52 = .ok (.imul, 1) := by decide +kernel
theorem d_Se_begin_53 : decode b_Se_begin 53 = .ok (.iconst 0, 1) := by decide +kernel
theorem d_Se_begin_54 : decode b_Se_begin 54 = .ok (.invokestatic 59, 3) := by decide +kernel
theorem d_Se_begin_57 : decode b_Se_begin 57 = .ok (.iadd, 1) := by decide +kernel
theorem d_Se_begin_58 : decode b_Se_begin 58 = .ok (.iastore, 1) := by decide +kernel
theorem d_Se_begin_59 : decode b_Se_begin 59 = .ok (.iinc 2 (-1), 3) := by decide +kernel
theorem d_Se_begin_62 : decode b_Se_begin 62 = .ok (.goto (-43), 3) := by decide +kernel
theorem d_Se_begin_65 : decode b_Se_begin 65 = .ok (.aload_n 0, 1) := by decide +kernel
theorem d_Se_begin_66 : decode b_Se_begin 66 = .ok (.getfield 42, 3) := by decide +kernel
theorem d_Se_begin_69 : decode b_Se_begin 69 = .ok (.aload_n 0, 1) := by decide +kernel
theorem d_Se_begin_70 : decode b_Se_begin 70 = .ok (.getfield 38, 3) := by decide +kernel
theorem d_Se_begin_73 : decode b_Se_begin 73 = .ok (.invokevirtual 65, 3) := by decide +kernel
theorem d_Se_begin_76 : decode b_Se_begin 76 = .ok (.aload_n 0, 1) := by decide +kernel
theorem d_Se_begin_77 : decode b_Se_begin 77 = .ok (.getfield 18, 3) := by decide +kernel
theorem d_Se_begin_80 : decode b_Se_begin 80 = .ok (.iconst 0, 1) := by decide +kernel
theorem d_Se_begin_81 : decode b_Se_begin 81 = .ok (.iconst 0, 1) := by decide +kernel
theorem d_Se_begin_82 : decode b_Se_begin 82 = .ok (.iastore, 1) := by decide +kernel
theorem d_Se_begin_83 : decode b_Se_begin 83 = .ok (.aload_n 0, 1) := by decide +kernel
theorem d_Se_begin_84 : decode b_Se_begin 84 = .ok (.iconst 0, 1) := by decide +kernel
theorem d_Se_begin_85 : decode b_Se_begin 85 = .ok (.putfield 28, 3) := by decide +kernel
theorem d_Se_begin_88 : decode b_Se_begin 88 = .ok (.aload_n 0, 1) := by decide +kernel
theorem d_Se_begin_89 : decode b_Se_begin 89 = .ok (.iconst 0, 1) := by decide +kernel
theorem d_Se_begin_90 : decode b_Se_begin 90 = .ok (.putfield 31, 3) := by decide +kernel
theorem d_Se_begin_93 : decode b_Se_begin 93 = .ok (.aload_n 0, 1) := by decide +kernel
theorem d_Se_begin_94 : decode b_Se_begin 94 = .ok (.iconst 0, 1) := by decide +kernel
theorem d_Se_begin_95 : decode b_Se_begin 95 = .ok (.putfield 24, 3) := by decide +kernel
theorem d_Se_begin_98 : decode b_Se_begin 98 = .ok (.aload_n 0, 1) := by decide +kernel
theorem d_Se_begin_99 : decode b_Se_begin 99 = .ok (.getfield 9, 3) := by decide +kernel
theorem d_Se_begin_102 : decode b_Se_begin 102 = .ok (.iconst 0, 1) := by decide +kernel
theorem d_Se_begin_103 : decode b_Se_begin 103 = .ok (.aload_n 0, 1) := by decide +kernel
theorem d_Se_begin_104 : decode b_Se_begin 104 = .ok (.getfield 38, 3) := by decide +kernel
theorem d_Se_begin_107 : decode b_Se_begin 107 = .ok (.iconst 0, 1) := by decide +kernel
theorem d_Se_begin_108 : decode b_Se_begin 108 = .ok (.invokevirtual 56, 3) := by decide +kernel
theorem d_Se_begin_111 : decode b_Se_begin 111 = .ok (.iastore, 1) := by decide +kernel
theorem d_Se_begin_112 : decode b_Se_begin 112 = .ok (.return_, 1) := by decide +kernel
abbrev b_Se_goOn : ByteArray := prog_6_method_7_code
def y_Se_goOn : MethodName := ⟨RSe, "goOn", "(I)I"⟩
theorem k_Se_goOn : Cond.code y_Se_goOn b_Se_goOn 3 (some .int) ∈ tt := (tt2 235 rfl rfl)
theorem i_Se_goOn : Cond.instanceMethod y_Se_goOn ∈ tt := (tt2 233 rfl rfl)
theorem l_Se_goOn : Cond.selects RSe y_Se_goOn y_Se_goOn ∈ tt := (tt2 234 rfl rfl)
theorem d_Se_goOn_0 : decode b_Se_goOn 0 = .ok (.aload_n 0, 1) := by decide +kernel
theorem d_Se_goOn_1 : decode b_Se_goOn 1 = .ok (.getfield 38, 3) := by decide +kernel
theorem d_Se_goOn_4 : decode b_Se_goOn 4 = .ok (.invokevirtual 46, 3) := by decide +kernel
theorem d_Se_goOn_7 : decode b_Se_goOn 7 = .ok (.ifCond .ne 7, 3) := by decide +kernel
theorem d_Se_goOn_10 : decode b_Se_goOn 10 = .ok (.aload_n 0, 1) := by decide +kernel
theorem d_Se_goOn_11 : decode b_Se_goOn 11 = .ok (.invokevirtual 71, 3) := by decide +kernel
theorem d_Se_goOn_14 : decode b_Se_goOn 14 = .ok (.iload_n 1, 1) := by decide +kernel
theorem d_Se_goOn_15 : decode b_Se_goOn 15 = .ok (.istore_n 2, 1) := by decide +kernel
theorem d_Se_goOn_16 : decode b_Se_goOn 16 = .ok (.iload_n 2, 1) := by decide +kernel
theorem d_Se_goOn_17 : decode b_Se_goOn 17 = .ok (.ifCond .le 20, 3) := by decide +kernel
theorem d_Se_goOn_20 : decode b_Se_goOn 20 = .ok (.aload_n 0, 1) := by decide +kernel
theorem d_Se_goOn_21 : decode b_Se_goOn 21 = .ok (.getfield 24, 3) := by decide +kernel
theorem d_Se_goOn_24 : decode b_Se_goOn 24 = .ok (.ifCond .lt 13, 3) := by decide +kernel
theorem d_Se_goOn_27 : decode b_Se_goOn 27 = .ok (.aload_n 0, 1) := by decide +kernel
theorem d_Se_goOn_28 : decode b_Se_goOn 28 = .ok (.invokevirtual 74, 3) := by decide +kernel
theorem d_Se_goOn_31 : decode b_Se_goOn 31 = .ok (.iinc 2 (-1), 3) := by decide +kernel
theorem d_Se_goOn_34 : decode b_Se_goOn 34 = .ok (.goto (-18), 3) := by decide +kernel
theorem d_Se_goOn_37 : decode b_Se_goOn 37 = .ok (.aload_n 0, 1) := by decide +kernel
theorem d_Se_goOn_38 : decode b_Se_goOn 38 = .ok (.getfield 24, 3) := by decide +kernel
theorem d_Se_goOn_41 : decode b_Se_goOn 41 = .ok (.ifCond .lt 5, 3) := by decide +kernel
theorem d_Se_goOn_44 : decode b_Se_goOn 44 = .ok (.iconst 2, 1) := by decide +kernel
theorem d_Se_goOn_45 : decode b_Se_goOn 45 = .ok (.ireturn, 1) := by decide +kernel
theorem d_Se_goOn_46 : decode b_Se_goOn 46 = .ok (.aload_n 0, 1) := by decide +kernel
theorem d_Se_goOn_47 : decode b_Se_goOn 47 = .ok (.getfield 31, 3) := by decide +kernel
theorem d_Se_goOn_50 : decode b_Se_goOn 50 = .ok (.ifCond .eq 7, 3) := by decide +kernel
theorem d_Se_goOn_53 : decode b_Se_goOn 53 = .ok (.iconst 0, 1) := by decide +kernel
theorem d_Se_goOn_54 : decode b_Se_goOn 54 = .ok (.goto 4, 3) := by decide +kernel
theorem d_Se_goOn_57 : decode b_Se_goOn 57 = .ok (.iconst 1, 1) := by decide +kernel
theorem d_Se_goOn_58 : decode b_Se_goOn 58 = .ok (.ireturn, 1) := by decide +kernel
abbrev b_Se_endWithoutColumns : ByteArray := prog_6_method_8_code
def y_Se_endWithoutColumns : MethodName := ⟨RSe, "endWithoutColumns", "()V"⟩
theorem k_Se_endWithoutColumns : Cond.code y_Se_endWithoutColumns b_Se_endWithoutColumns 1 none ∈ tt := (tt2 239 rfl rfl)
theorem i_Se_endWithoutColumns : Cond.instanceMethod y_Se_endWithoutColumns ∈ tt := (tt2 238 rfl rfl)
theorem l_Se_endWithoutColumns : Cond.selects RSe y_Se_endWithoutColumns y_Se_endWithoutColumns ∈ tt := (tt0 7 rfl rfl)
theorem d_Se_endWithoutColumns_0 : decode b_Se_endWithoutColumns 0 = .ok (.aload_n 0, 1) := by decide +kernel
theorem d_Se_endWithoutColumns_1 : decode b_Se_endWithoutColumns 1 = .ok (.aload_n 0, 1) := by decide +kernel
theorem d_Se_endWithoutColumns_2 : decode b_Se_endWithoutColumns 2 = .ok (.getfield 42, 3) := by decide +kernel
theorem d_Se_endWithoutColumns_5 : decode b_Se_endWithoutColumns 5 = .ok (.invokevirtual 77, 3) := by decide +kernel
theorem d_Se_endWithoutColumns_8 : decode b_Se_endWithoutColumns 8 = .ok (.putfield 31, 3) := by decide +kernel
theorem d_Se_endWithoutColumns_11 : decode b_Se_endWithoutColumns 11 = .ok (.aload_n 0, 1) := by decide +kernel
theorem d_Se_endWithoutColumns_12 : decode b_Se_endWithoutColumns 12 = .ok (.iconst 0, 1) := by decide +kernel
theorem d_Se_endWithoutColumns_13 : decode b_Se_endWithoutColumns 13 = .ok (.putfield 35, 3) := by decide +kernel
theorem d_Se_endWithoutColumns_16 : decode b_Se_endWithoutColumns 16 = .ok (.aload_n 0, 1) := by decide +kernel
theorem d_Se_endWithoutColumns_17 : decode b_Se_endWithoutColumns 17 = .ok (.iconst (-1), 1) := by decide +kernel
theorem d_Se_endWithoutColumns_18 : decode b_Se_endWithoutColumns 18 = .ok (.putfield 24, 3) := by decide +kernel
theorem d_Se_endWithoutColumns_21 : decode b_Se_endWithoutColumns 21 = .ok (.return_, 1) := by decide +kernel
abbrev b_Se_step : ByteArray := prog_6_method_9_code
def y_Se_step : MethodName := ⟨RSe, "step", "()V"⟩
theorem k_Se_step : Cond.code y_Se_step b_Se_step 3 none ∈ tt := (tt3 8 rfl rfl)
theorem i_Se_step : Cond.instanceMethod y_Se_step ∈ tt := (tt3 7 rfl rfl)
theorem l_Se_step : Cond.selects RSe y_Se_step y_Se_step ∈ tt := (tt0 8 rfl rfl)
theorem d_Se_step_0 : decode b_Se_step 0 = .ok (.aload_n 0, 1) := by decide +kernel
theorem d_Se_step_1 : decode b_Se_step 1 = .ok (.getfield 9, 3) := by decide +kernel
theorem d_Se_step_4 : decode b_Se_step 4 = .ok (.aload_n 0, 1) := by decide +kernel
theorem d_Se_step_5 : decode b_Se_step 5 = .ok (.getfield 24, 3) := by decide +kernel
theorem d_Se_step_8 : decode b_Se_step 8 = .ok (.iaload, 1) := by decide +kernel
theorem d_Se_step_9 : decode b_Se_step 9 = .ok (.istore_n 1, 1) := by decide +kernel
theorem d_Se_step_10 : decode b_Se_step 10 = .ok (.aload_n 0, 1) := by decide +kernel
theorem d_Se_step_11 : decode b_Se_step 11 = .ok (.getfield 18, 3) := by decide +kernel
theorem d_Se_step_14 : decode b_Se_step 14 = .ok (.aload_n 0, 1) := by decide +kernel
theorem d_Se_step_15 : decode b_Se_step 15 = .ok (.getfield 24, 3) := by decide +kernel
theorem d_Se_step_18 : decode b_Se_step 18 = .ok (.iaload, 1) := by decide +kernel
theorem d_Se_step_19 : decode b_Se_step 19 = .ok (.aload_n 0, 1) := by decide +kernel
theorem d_Se_step_20 : decode b_Se_step 20 = .ok (.getfield 38, 3) := by decide +kernel
theorem d_Se_step_23 : decode b_Se_step 23 = .ok (.aload_n 0, 1) := by decide +kernel
theorem d_Se_step_24 : decode b_Se_step 24 = .ok (.getfield 24, 3) := by decide +kernel
theorem d_Se_step_27 : decode b_Se_step 27 = .ok (.invokevirtual 52, 3) := by decide +kernel
theorem d_Se_step_30 : decode b_Se_step 30 = .ok (.iload_n 1, 1) := by decide +kernel
theorem d_Se_step_31 : decode b_Se_step 31 = .ok (.imul, 1) := by decide +kernel
theorem d_Se_step_32 : decode b_Se_step 32 = .ok (.iadd, 1) := by decide +kernel
theorem d_Se_step_33 : decode b_Se_step 33 = .ok (.istore_n 2, 1) := by decide +kernel
theorem d_Se_step_34 : decode b_Se_step 34 = .ok (.aload_n 0, 1) := by decide +kernel
theorem d_Se_step_35 : decode b_Se_step 35 = .ok (.dup, 1) := by decide +kernel
theorem d_Se_step_36 : decode b_Se_step 36 = .ok (.getfield 28, 3) := by decide +kernel
theorem d_Se_step_39 : decode b_Se_step 39 = .ok (.iconst 1, 1) := by decide +kernel
theorem d_Se_step_40 : decode b_Se_step 40 = .ok (.iadd, 1) := by decide +kernel
theorem d_Se_step_41 : decode b_Se_step 41 = .ok (.putfield 28, 3) := by decide +kernel
theorem d_Se_step_44 : decode b_Se_step 44 = .ok (.aload_n 0, 1) := by decide +kernel
theorem d_Se_step_45 : decode b_Se_step 45 = .ok (.getfield 18, 3) := by decide +kernel
theorem d_Se_step_48 : decode b_Se_step 48 = .ok (.aload_n 0, 1) := by decide +kernel
theorem d_Se_step_49 : decode b_Se_step 49 = .ok (.getfield 24, 3) := by decide +kernel
theorem d_Se_step_52 : decode b_Se_step 52 = .ok (.iconst 1, 1) := by decide +kernel
theorem d_Se_step_53 : decode b_Se_step 53 = .ok (.iadd, 1) := by decide +kernel
theorem d_Se_step_54 : decode b_Se_step 54 = .ok (.iload_n 2, 1) := by decide +kernel
theorem d_Se_step_55 : decode b_Se_step 55 = .ok (.iastore, 1) := by decide +kernel
theorem d_Se_step_56 : decode b_Se_step 56 = .ok (.aload_n 0, 1) := by decide +kernel
theorem d_Se_step_57 : decode b_Se_step 57 = .ok (.iload_n 2, 1) := by decide +kernel
theorem d_Se_step_58 : decode b_Se_step 58 = .ok (.aload_n 0, 1) := by decide +kernel
theorem d_Se_step_59 : decode b_Se_step 59 = .ok (.getfield 21, 3) := by decide +kernel
theorem d_Se_step_62 : decode b_Se_step 62 = .ok (.aload_n 0, 1) := by decide +kernel
theorem d_Se_step_63 : decode b_Se_step 63 = .ok (.getfield 24, 3) := by decide +kernel
theorem d_Se_step_66 : decode b_Se_step 66 = .ok (.iconst 1, 1) := by decide +kernel
theorem d_Se_step_67 : decode b_Se_step 67 = .ok (.iadd, 1) := by decide +kernel
theorem d_Se_step_68 : decode b_Se_step 68 = .ok (.iaload, 1) := by decide +kernel
theorem d_Se_step_69 : decode b_Se_step 69 = .ok (.iadd, 1) := by decide +kernel
theorem d_Se_step_70 : decode b_Se_step 70 = .ok (.invokevirtual 81, 3) := by decide +kernel
theorem d_Se_step_73 : decode b_Se_step 73 = .ok (.ifCond .eq 18, 3) := by decide +kernel
theorem d_Se_step_76 : decode b_Se_step 76 = .ok (.aload_n 0, 1) := by decide +kernel
theorem d_Se_step_77 : decode b_Se_step 77 = .ok (.getfield 42, 3) := by decide +kernel
theorem d_Se_step_80 : decode b_Se_step 80 = .ok (.aload_n 0, 1) := by decide +kernel
theorem d_Se_step_81 : decode b_Se_step 81 = .ok (.getfield 24, 3) := by decide +kernel
theorem d_Se_step_84 : decode b_Se_step 84 = .ok (.iload_n 1, 1) := by decide +kernel
theorem d_Se_step_85 : decode b_Se_step 85 = .ok (.invokevirtual 85, 3) := by decide +kernel
theorem d_Se_step_88 : decode b_Se_step 88 = .ok (.ifCond .ne 10, 3) := by decide +kernel
theorem d_Se_step_91 : decode b_Se_step 91 = .ok (.aload_n 0, 1) := by decide +kernel
theorem d_Se_step_92 : decode b_Se_step 92 = .ok (.invokevirtual 89, 3) := by decide +kernel
theorem d_Se_step_95 : decode b_Se_step 95 = .ok (.goto 61, 3) := by decide +kernel
theorem d_Se_step_98 : decode b_Se_step 98 = .ok (.aload_n 0, 1) := by decide +kernel
theorem d_Se_step_99 : decode b_Se_step 99 = .ok (.getfield 24, 3) := by decide +kernel
theorem d_Se_step_102 : decode b_Se_step 102 = .ok (.iconst 1, 1) := by decide +kernel
theorem d_Se_step_103 : decode b_Se_step 103 = .ok (.iadd, 1) := by decide +kernel
theorem d_Se_step_104 : decode b_Se_step 104 = .ok (.aload_n 0, 1) := by decide +kernel
theorem d_Se_step_105 : decode b_Se_step 105 = .ok (.getfield 38, 3) := by decide +kernel
theorem d_Se_step_108 : decode b_Se_step 108 = .ok (.invokevirtual 46, 3) := by decide +kernel
theorem d_Se_step_111 : decode b_Se_step 111 = .ok (.if_icmp .ge 36, 3) := by decide +kernel
theorem d_Se_step_114 : decode b_Se_step 114 = .ok (.aload_n 0, 1) := by decide +kernel
theorem d_Se_step_115 : decode b_Se_step 115 = .ok (.dup, 1) := by decide +kernel
theorem d_Se_step_116 : decode b_Se_step 116 = .ok (.getfield 24, 3) := by decide +kernel
theorem d_Se_step_119 : decode b_Se_step 119 = .ok (.iconst 1, 1) := by decide +kernel
theorem d_Se_step_120 : decode b_Se_step 120 = .ok (.iadd, 1) := by decide +kernel
theorem d_Se_step_121 : decode b_Se_step 121 = .ok (.putfield 24, 3) := by decide +kernel
theorem d_Se_step_124 : decode b_Se_step 124 = .ok (.aload_n 0, 1) := by decide +kernel
theorem d_Se_step_125 : decode b_Se_step 125 = .ok (.getfield 9, 3) := by decide +kernel
theorem d_Se_step_128 : decode b_Se_step 128 = .ok (.aload_n 0, 1) := by decide +kernel
theorem d_Se_step_129 : decode b_Se_step 129 = .ok (.getfield 24, 3) := by decide +kernel
theorem d_Se_step_132 : decode b_Se_step 132 = .ok (.aload_n 0, 1) := by decide +kernel
theorem d_Se_step_133 : decode b_Se_step 133 = .ok (.getfield 38, 3) := by decide +kernel
theorem d_Se_step_136 : decode b_Se_step 136 = .ok (.aload_n 0, 1) := by decide +kernel
theorem d_Se_step_137 : decode b_Se_step 137 = .ok (.getfield 24, 3) := by decide +kernel
theorem d_Se_step_140 : decode b_Se_step 140 = .ok (.invokevirtual 56, 3) := by decide +kernel
theorem d_Se_step_143 : decode b_Se_step 143 = .ok (.iastore, 1) := by decide +kernel
theorem d_Se_step_144 : decode b_Se_step 144 = .ok (.goto 12, 3) := by decide +kernel
theorem d_Se_step_147 : decode b_Se_step 147 = .ok (.aload_n 0, 1) := by decide +kernel
theorem d_Se_step_148 : decode b_Se_step 148 = .ok (.iload_n 2, 1) := by decide +kernel
theorem d_Se_step_149 : decode b_Se_step 149 = .ok (.invokevirtual 92, 3) := by decide +kernel
theorem d_Se_step_152 : decode b_Se_step 152 = .ok (.aload_n 0, 1) := by decide +kernel
theorem d_Se_step_153 : decode b_Se_step 153 = .ok (.invokevirtual 89, 3) := by decide +kernel
theorem d_Se_step_156 : decode b_Se_step 156 = .ok (.return_, 1) := by decide +kernel
abbrev b_Se_isWorthwhile : ByteArray := prog_6_method_10_code
def y_Se_isWorthwhile : MethodName := ⟨RSe, "isWorthwhile", "(I)Z"⟩
theorem k_Se_isWorthwhile : Cond.code y_Se_isWorthwhile b_Se_isWorthwhile 2 (some .boolean) ∈ tt := (tt3 12 rfl rfl)
theorem i_Se_isWorthwhile : Cond.instanceMethod y_Se_isWorthwhile ∈ tt := (tt3 11 rfl rfl)
theorem l_Se_isWorthwhile : Cond.selects RSe y_Se_isWorthwhile y_Se_isWorthwhile ∈ tt := (tt0 9 rfl rfl)
theorem d_Se_isWorthwhile_0 : decode b_Se_isWorthwhile 0 = .ok (.aload_n 0, 1) := by decide +kernel
theorem d_Se_isWorthwhile_1 : decode b_Se_isWorthwhile 1 = .ok (.getfield 31, 3) := by decide +kernel
theorem d_Se_isWorthwhile_4 : decode b_Se_isWorthwhile 4 = .ok (.ifCond .eq 11, 3) := by decide +kernel
theorem d_Se_isWorthwhile_7 : decode b_Se_isWorthwhile 7 = .ok (.iload_n 1, 1) := by decide +kernel
theorem d_Se_isWorthwhile_8 : decode b_Se_isWorthwhile 8 = .ok (.aload_n 0, 1) := by decide +kernel
theorem d_Se_isWorthwhile_9 : decode b_Se_isWorthwhile 9 = .ok (.getfield 35, 3) := by decide +kernel
theorem d_Se_isWorthwhile_12 : decode b_Se_isWorthwhile 12 = .ok (.if_icmp .le 7, 3) := by decide +kernel
theorem d_Se_isWorthwhile_15 : decode b_Se_isWorthwhile 15 = .ok (.iconst 1, 1) := by decide +kernel
theorem d_Se_isWorthwhile_16 : decode b_Se_isWorthwhile 16 = .ok (.goto 4, 3) := by decide +kernel
theorem d_Se_isWorthwhile_19 : decode b_Se_isWorthwhile 19 = .ok (.iconst 0, 1) := by decide +kernel
theorem d_Se_isWorthwhile_20 : decode b_Se_isWorthwhile 20 = .ok (.ireturn, 1) := by decide +kernel
abbrev b_Se_keep : ByteArray := prog_6_method_11_code
def y_Se_keep : MethodName := ⟨RSe, "keep", "(I)V"⟩
theorem k_Se_keep : Cond.code y_Se_keep b_Se_keep 2 none ∈ tt := (tt3 28 rfl rfl)
theorem i_Se_keep : Cond.instanceMethod y_Se_keep ∈ tt := (tt3 27 rfl rfl)
theorem l_Se_keep : Cond.selects RSe y_Se_keep y_Se_keep ∈ tt := (tt0 11 rfl rfl)
theorem d_Se_keep_0 : decode b_Se_keep 0 = .ok (.aload_n 0, 1) := by decide +kernel
theorem d_Se_keep_1 : decode b_Se_keep 1 = .ok (.iconst 1, 1) := by decide +kernel
theorem d_Se_keep_2 : decode b_Se_keep 2 = .ok (.putfield 31, 3) := by decide +kernel
theorem d_Se_keep_5 : decode b_Se_keep 5 = .ok (.aload_n 0, 1) := by decide +kernel
theorem d_Se_keep_6 : decode b_Se_keep 6 = .ok (.iload_n 1, 1) := by decide +kernel
theorem d_Se_keep_7 : decode b_Se_keep 7 = .ok (.putfield 35, 3) := by decide +kernel
theorem d_Se_keep_10 : decode b_Se_keep 10 = .ok (.aload_n 0, 1) := by decide +kernel
theorem d_Se_keep_11 : decode b_Se_keep 11 = .ok (.getfield 9, 3) := by decide +kernel
theorem d_Se_keep_14 : decode b_Se_keep 14 = .ok (.iconst 0, 1) := by decide +kernel
theorem d_Se_keep_15 : decode b_Se_keep 15 = .ok (.aload_n 0, 1) := by decide +kernel
theorem d_Se_keep_16 : decode b_Se_keep 16 = .ok (.getfield 15, 3) := by decide +kernel
theorem d_Se_keep_19 : decode b_Se_keep 19 = .ok (.iconst 0, 1) := by decide +kernel
theorem d_Se_keep_20 : decode b_Se_keep 20 = .ok (.aload_n 0, 1) := by decide +kernel
theorem d_Se_keep_21 : decode b_Se_keep 21 = .ok (.getfield 38, 3) := by decide +kernel
theorem d_Se_keep_24 : decode b_Se_keep 24 = .ok (.invokevirtual 46, 3) := by decide +kernel
theorem d_Se_keep_27 : decode b_Se_keep 27 = .ok (.invokestatic 96, 3) := by decide +kernel
theorem d_Se_keep_30 : decode b_Se_keep 30 = .ok (.return_, 1) := by decide +kernel
abbrev b_Se_toNextNumber : ByteArray := prog_6_method_12_code
def y_Se_toNextNumber : MethodName := ⟨RSe, "toNextNumber", "()V"⟩
theorem k_Se_toNextNumber : Cond.code y_Se_toNextNumber b_Se_toNextNumber 1 none ∈ tt := (tt3 24 rfl rfl)
theorem i_Se_toNextNumber : Cond.instanceMethod y_Se_toNextNumber ∈ tt := (tt3 23 rfl rfl)
theorem l_Se_toNextNumber : Cond.selects RSe y_Se_toNextNumber y_Se_toNextNumber ∈ tt := (tt0 10 rfl rfl)
theorem d_Se_toNextNumber_0 : decode b_Se_toNextNumber 0 = .ok (.aload_n 0, 1) := by decide +kernel
theorem d_Se_toNextNumber_1 : decode b_Se_toNextNumber 1 = .ok (.getfield 24, 3) := by decide +kernel
theorem d_Se_toNextNumber_4 : decode b_Se_toNextNumber 4 = .ok (.ifCond .lt 28, 3) := by decide +kernel
theorem d_Se_toNextNumber_7 : decode b_Se_toNextNumber 7 = .ok (.aload_n 0, 1) := by decide +kernel
theorem d_Se_toNextNumber_8 : decode b_Se_toNextNumber 8 = .ok (.getfield 9, 3) := by decide +kernel
theorem d_Se_toNextNumber_11 : decode b_Se_toNextNumber 11 = .ok (.aload_n 0, 1) := by decide +kernel
theorem d_Se_toNextNumber_12 : decode b_Se_toNextNumber 12 = .ok (.getfield 24, 3) := by decide +kernel
theorem d_Se_toNextNumber_15 : decode b_Se_toNextNumber 15 = .ok (.iaload, 1) := by decide +kernel
theorem d_Se_toNextNumber_16 : decode b_Se_toNextNumber 16 = .ok (.ifCond .ne 16, 3) := by decide +kernel
theorem d_Se_toNextNumber_19 : decode b_Se_toNextNumber 19 = .ok (.aload_n 0, 1) := by decide +kernel
theorem d_Se_toNextNumber_20 : decode b_Se_toNextNumber 20 = .ok (.dup, 1) := by decide +kernel
theorem d_Se_toNextNumber_21 : decode b_Se_toNextNumber 21 = .ok (.getfield 24, 3) := by decide +kernel
theorem d_Se_toNextNumber_24 : decode b_Se_toNextNumber 24 = .ok (.iconst 1, 1) := by decide +kernel
theorem d_Se_toNextNumber_25 : decode b_Se_toNextNumber 25 = .ok (.isub, 1) := by decide +kernel
theorem d_Se_toNextNumber_26 : decode b_Se_toNextNumber 26 = .ok (.putfield 24, 3) := by decide +kernel
theorem d_Se_toNextNumber_29 : decode b_Se_toNextNumber 29 = .ok (.goto (-29), 3) := by decide +kernel
theorem d_Se_toNextNumber_32 : decode b_Se_toNextNumber 32 = .ok (.aload_n 0, 1) := by decide +kernel
theorem d_Se_toNextNumber_33 : decode b_Se_toNextNumber 33 = .ok (.getfield 24, 3) := by decide +kernel
theorem d_Se_toNextNumber_36 : decode b_Se_toNextNumber 36 = .ok (.ifCond .lt 16, 3) := by decide +kernel
theorem d_Se_toNextNumber_39 : decode b_Se_toNextNumber 39 = .ok (.aload_n 0, 1) := by decide +kernel
theorem d_Se_toNextNumber_40 : decode b_Se_toNextNumber 40 = .ok (.getfield 9, 3) := by decide +kernel
theorem d_Se_toNextNumber_43 : decode b_Se_toNextNumber 43 = .ok (.aload_n 0, 1) := by decide +kernel
theorem d_Se_toNextNumber_44 : decode b_Se_toNextNumber 44 = .ok (.getfield 24, 3) := by decide +kernel
theorem d_Se_toNextNumber_47 : decode b_Se_toNextNumber 47 = .ok (.dup2, 1) := by decide +kernel
theorem d_Se_toNextNumber_48 : decode b_Se_toNextNumber 48 = .ok (.iaload, 1) := by decide +kernel
theorem d_Se_toNextNumber_49 : decode b_Se_toNextNumber 49 = .ok (.iconst 1, 1) := by decide +kernel
theorem d_Se_toNextNumber_50 : decode b_Se_toNextNumber 50 = .ok (.isub, 1) := by decide +kernel
theorem d_Se_toNextNumber_51 : decode b_Se_toNextNumber 51 = .ok (.iastore, 1) := by decide +kernel
theorem d_Se_toNextNumber_52 : decode b_Se_toNextNumber 52 = .ok (.return_, 1) := by decide +kernel
abbrev b_JM_floorDiv : ByteArray := prog_13_method_49_code
def y_JM_floorDiv : MethodName := ⟨RJM, "floorDiv", "(JJ)J"⟩
theorem k_JM_floorDiv : Cond.code y_JM_floorDiv b_JM_floorDiv 6 (some .long) ∈ tt := (tt1 197 rfl rfl)
theorem s_JM_floorDiv : Cond.static y_JM_floorDiv ∈ tt := (tt1 196 rfl rfl)
theorem d_JM_floorDiv_0 : decode b_JM_floorDiv 0 = .ok (.lload_n 0, 1) := by decide +kernel
theorem d_JM_floorDiv_1 : decode b_JM_floorDiv 1 = .ok (.lload_n 2, 1) := by decide +kernel
theorem d_JM_floorDiv_2 : decode b_JM_floorDiv 2 = .ok (.ldiv, 1) := by decide +kernel
theorem d_JM_floorDiv_3 : decode b_JM_floorDiv 3 = .ok (.lstore 4, 2) := by decide +kernel
theorem d_JM_floorDiv_5 : decode b_JM_floorDiv 5 = .ok (.lload_n 0, 1) := by decide +kernel
theorem d_JM_floorDiv_6 : decode b_JM_floorDiv 6 = .ok (.lload_n 2, 1) := by decide +kernel
theorem d_JM_floorDiv_7 : decode b_JM_floorDiv 7 = .ok (.lxor, 1) := by decide +kernel
theorem d_JM_floorDiv_8 : decode b_JM_floorDiv 8 = .ok (.lconst 0, 1) := by decide +kernel
theorem d_JM_floorDiv_9 : decode b_JM_floorDiv 9 = .ok (.lcmp, 1) := by decide +kernel
theorem d_JM_floorDiv_10 : decode b_JM_floorDiv 10 = .ok (.ifCond .ge 17, 3) := by decide +kernel
theorem d_JM_floorDiv_13 : decode b_JM_floorDiv 13 = .ok (.lload 4, 2) := by decide +kernel
theorem d_JM_floorDiv_15 : decode b_JM_floorDiv 15 = .ok (.lload_n 2, 1) := by decide +kernel
theorem d_JM_floorDiv_16 : decode b_JM_floorDiv 16 = .ok (.lmul, 1) := by decide +kernel
theorem d_JM_floorDiv_17 : decode b_JM_floorDiv 17 = .ok (.lload_n 0, 1) := by decide +kernel
theorem d_JM_floorDiv_18 : decode b_JM_floorDiv 18 = .ok (.lcmp, 1) := by decide +kernel
theorem d_JM_floorDiv_19 : decode b_JM_floorDiv 19 = .ok (.ifCond .eq 8, 3) := by decide +kernel
theorem d_JM_floorDiv_22 : decode b_JM_floorDiv 22 = .ok (.lload 4, 2) := by decide +kernel
theorem d_JM_floorDiv_24 : decode b_JM_floorDiv 24 = .ok (.lconst 1, 1) := by decide +kernel
theorem d_JM_floorDiv_25 : decode b_JM_floorDiv 25 = .ok (.lsub, 1) := by decide +kernel
theorem d_JM_floorDiv_26 : decode b_JM_floorDiv 26 = .ok (.lreturn, 1) := by decide +kernel
theorem d_JM_floorDiv_27 : decode b_JM_floorDiv 27 = .ok (.lload 4, 2) := by decide +kernel
theorem d_JM_floorDiv_29 : decode b_JM_floorDiv 29 = .ok (.lreturn, 1) := by decide +kernel
end
section
/-! OWN KIT: contracts of two kinds over a world ws (a list of cells): R: the method changes nothing; M: it leaves the world ws'. Rows for their starts, ends and calls. -/
section OKIT
variable {p : Program} {l : Launch} {e : Env} {R : Room} {s : State} {m : MethodId} {args : Array Value} {below : List Frame} {meth : Method} {c : Code} {H : Heap} {locs : List Loc} {cells slots : Nat} {Q : State → Prop}
variable {cc : ByteArray} {pc nL : Nat} {ls : Array Slot} {rest st0 : List Value} {D : va_G} {cl : List vw_C} {A : Nat → Prop} {tys : List (ClassId × FieldType)} {ws ws' : va_W} {H0 : Heap} {Ts : List Cond} {own : String}
/-- the end of a method that changes nothing and answers v -/
def ok_R (v : Option Value) : Array Value → State → Outcome → State → Prop := fun _ st o t => o = .returned v ∧ t.heap = st.heap
def ok_pR (D : va_G) (cl : List vw_C) (tys : List (ClassId × FieldType)) (ws : va_W) (av : List Value) : Array Value → State → Prop := va_Pc av (fun U => va_P D cl ws U.heap ∧ va_K D cl tys U)
def ok_pM (D : va_G) (cl : List vw_C) (tys : List (ClassId × FieldType)) (ws : va_W) (sz : Nat) (av : List Value) : Array Value → State → Prop := va_Pc av (fun U => U.heap.size = sz ∧ va_P D cl ws U.heap ∧ va_K D cl tys U ∧ va_D (fun _ => True) ws)
/-- the end of a method that leaves the world ws' and answers v -/
def ok_qA (D : va_G) (cl : List vw_C) (A : Nat → Prop) (ws' : va_W) (v : Option Value) : Array Value → State → Outcome → State → Prop := fun _ st o t => o = .returned v ∧ va_P D cl ws' t.heap ∧ va_D A ws' ∧ va_F A st t
/-- contracts -/
def ok_MR (l : Launch) (y : MethodName) (wt : List Cond) (rm : Room) (D : va_G) (cl : List vw_C) (tys : List (ClassId × FieldType)) (ws : va_W) (av : List Value) (v : Option Value) : Prop :=
  Met l y wt rm (ok_pR D cl tys ws av) (ok_R v) 0 0 (fun _ => False)
def ok_MM (l : Launch) (y : MethodName) (wt : List Cond) (rm : Room) (D : va_G) (cl : List vw_C) (tys : List (ClassId × FieldType)) (ws ws' : va_W) (av : List Value) (v : Option Value) : Prop :=
  ∀ sz : Nat, Met l y wt rm (ok_pM D cl tys ws sz av) (ok_qA D cl (va_A ws sz) ws' v) 0 0 (va_A ws sz)
theorem ok_blR {av : List Value} : FrameBlind (ok_pR D cl tys ws av) := fun a U g mk h => ⟨h.1, h.2.1, va_K.moved (u := U) (U := U.calling g mk a) (Vm.Alike.refl U.vm) h.2.2⟩
theorem ok_blM {av : List Value} {sz : Nat} : FrameBlind (ok_pM D cl tys ws sz av) := fun a U g mk h => ⟨h.1, h.2.1, h.2.2.1, va_K.moved (u := U) (U := U.calling g mk a) (Vm.Alike.refl U.vm) h.2.2.2.1, h.2.2.2.2⟩
/-- the start of an R method -/
theorem ok_startR {y : MethodName} {wt wt' : List Cond} {rm : Room} {av : List Value} {v : Option Value} {maxL : Nat} {ret : Option FieldType} (hy : plainName y.cls = true) (hw : wt = Cond.code y cc maxL ret :: wt') (ho : y.cls = own) (hn : (lg_sl av).length ≤ maxL)
    (k : ∀ (p : Program) (e : Env) (s : State) (m : MethodId) (below : List Frame) (meth : Method) (c : Code), CallFix p m c cc maxL s av.toArray wt own → meth.sig.returnType = ret → meth.locks = false → va_P D cl ws s.heap → va_K D cl tys s →
      ∀ ls : Array Slot, lv_has ls maxL (lv_args 0 av) → W p l e rm s m av.toArray below meth c s.heap [] 0 0 (MQ below (ok_R v) av.toArray s 0 0 (fun _ => False)) (F0 m 0 ls [])) : ok_MR l y wt rm D cl tys ws av v := by
  refine Met.ofW (cc := cc) (maxL := maxL) (ret := ret) hy hw ?_
  intro p e s m args below meth c s₁ B hml hv
  obtain ⟨rfl, hP, hK⟩ := hv
  have hts := atoms_spec (ws := wt) B.pre
  have hown : s.vm.findClass y.cls = some m.cls := findClass_of_methodNamed B.named
  rw [ho] at hown
  rw [lg_entry_eq]
  exact k p e s m below meth c ⟨B.exec, B.bytes, hml, hown, hts⟩ B.returns B.notSynchronized hP hK _ (lv_entry av hn)
theorem ok_startRF {y : MethodName} {wt wt' : List Cond} {rm : Room} {av : List Value} {v : Option Value} {maxL : Nat} {ret : Option FieldType} (hy : plainFor y = true) (hw : wt = Cond.code y cc maxL ret :: wt') (ho : y.cls = own) (hn : (lg_sl av).length ≤ maxL)
    (k : ∀ (p : Program) (e : Env) (s : State) (m : MethodId) (below : List Frame) (meth : Method) (c : Code), CallFix p m c cc maxL s av.toArray wt own → meth.sig.returnType = ret → meth.locks = false → va_P D cl ws s.heap → va_K D cl tys s →
      ∀ ls : Array Slot, lv_has ls maxL (lv_args 0 av) → W p l e rm s m av.toArray below meth c s.heap [] 0 0 (MQ below (ok_R v) av.toArray s 0 0 (fun _ => False)) (F0 m 0 ls [])) : ok_MR l y wt rm D cl tys ws av v := by
  refine va_MetF (cc := cc) (maxL := maxL) (ret := ret) hy hw ?_
  intro p e s m args below meth c s₁ B hml hv
  obtain ⟨rfl, hP, hK⟩ := hv
  have hts := atoms_spec (ws := wt) B.pre
  have hown : s.vm.findClass y.cls = some m.cls := findClass_of_methodNamed B.named
  rw [ho] at hown
  rw [lg_entry_eq]
  exact k p e s m below meth c ⟨B.exec, B.bytes, hml, hown, hts⟩ B.returns B.notSynchronized hP hK _ (lv_entry av hn)
/-- the start of an M method -/
theorem ok_startM {y : MethodName} {wt wt' : List Cond} {rm : Room} {av : List Value} {v : Option Value} {maxL : Nat} {ret : Option FieldType} (hy : plainName y.cls = true) (hw : wt = Cond.code y cc maxL ret :: wt') (ho : y.cls = own) (hn : (lg_sl av).length ≤ maxL)
    (k : ∀ (p : Program) (e : Env) (s : State) (m : MethodId) (below : List Frame) (meth : Method) (c : Code) (A : Nat → Prop), CallFix p m c cc maxL s av.toArray wt own → meth.sig.returnType = ret → meth.locks = false → (∀ q : Nat, s.heap.size ≤ q → A q) → va_P D cl ws s.heap → va_K D cl tys s → va_D A ws → va_S A s.heap s.heap [] →
      ∀ ls : Array Slot, lv_has ls maxL (lv_args 0 av) → W p l e rm s m av.toArray below meth c s.heap [] 0 0 (MQ below (ok_qA D cl A ws' v) av.toArray s 0 0 A) (F0 m 0 ls [])) : ok_MM l y wt rm D cl tys ws ws' av v := by
  intro sz
  refine Met.ofW (cc := cc) (maxL := maxL) (ret := ret) hy hw ?_
  intro p e s m args below meth c s₁ B hml hv
  obtain ⟨rfl, hsz, hP, hK, hD⟩ := hv
  subst hsz
  have hts := atoms_spec (ws := wt) B.pre
  have hown : s.vm.findClass y.cls = some m.cls := findClass_of_methodNamed B.named
  rw [ho] at hown
  rw [lg_entry_eq]
  exact k p e s m below meth c _ ⟨B.exec, B.bytes, hml, hown, hts⟩ B.returns B.notSynchronized (fun q h => Or.inr h) hP hK hD.self va_S.rf _ (lv_entry av hn)
-- ends
theorem ok_iretR (F : CallFix p m c cc nL s args Ts own) (hr : meth.sig.returnType = some .int) (hlk : meth.locks = false) {v r : Int32} (hv : v = r) (hdg : decode cc pc = .ok (.ireturn, 1)) : W p l e R s m args below meth c s.heap [] 0 0 (MQ below (ok_R (some (.int r))) args s 0 0 (fun _ => False)) (F0 m pc ls [.int v]) := by
  subst hv
  exact W.iret F.1 F.2.1 hr (fun t ht _ => ⟨rfl, ht⟩) (fun _ h => by cases h) hdg hlk
theorem ok_zretR (F : CallFix p m c cc nL s args Ts own) (hr : meth.sig.returnType = some .boolean) (hlk : meth.locks = false) {v r : Int32} (hn : narrow .boolean (.int v) = .int v) (hv : v = r) (hdg : decode cc pc = .ok (.ireturn, 1)) : W p l e R s m args below meth c s.heap [] 0 0 (MQ below (ok_R (some (.int r))) args s 0 0 (fun _ => False)) (F0 m pc ls [.int v]) := by
  subst hv
  exact W.zret F.1 F.2.1 hr hn (fun t ht _ => ⟨rfl, ht⟩) (fun _ h => by cases h) hdg hlk
theorem ok_lretR (F : CallFix p m c cc nL s args Ts own) (hr : meth.sig.returnType = some .long) (hlk : meth.locks = false) {v r : Int64} (hv : v = r) (hdg : decode cc pc = .ok (.lreturn, 1)) : W p l e R s m args below meth c s.heap [] 0 0 (MQ below (ok_R (some (.long r))) args s 0 0 (fun _ => False)) (F0 m pc ls [.long v]) := by
  subst hv
  exact W.lret F.1 F.2.1 hr (fun t ht _ => ⟨rfl, ht⟩) (fun _ h => by cases h) hdg hlk
theorem ok_iretM (F : CallFix p m c cc nL s args Ts own) (hr : meth.sig.returnType = some .int) (hlk : meth.locks = false) (hP : va_P D cl ws' H) (hD : va_D A ws') (hS : va_S A s.heap H locs) {v r : Int32} (hv : v = r) (hdg : decode cc pc = .ok (.ireturn, 1)) : W p l e R s m args below meth c H locs 0 0 (MQ below (ok_qA D cl A ws' (some (.int r))) args s 0 0 A) (F0 m pc ls [.int v]) := by
  subst hv
  exact W.iret F.1 F.2.1 hr (fun t ht _ => ⟨rfl, by rw [ht]; exact hP, hD, hS.F ht⟩) hS.2.2 hdg hlk
theorem ok_zretM (F : CallFix p m c cc nL s args Ts own) (hr : meth.sig.returnType = some .boolean) (hlk : meth.locks = false) (hP : va_P D cl ws' H) (hD : va_D A ws') (hS : va_S A s.heap H locs) {v r : Int32} (hn : narrow .boolean (.int v) = .int v) (hv : v = r) (hdg : decode cc pc = .ok (.ireturn, 1)) : W p l e R s m args below meth c H locs 0 0 (MQ below (ok_qA D cl A ws' (some (.int r))) args s 0 0 A) (F0 m pc ls [.int v]) := by
  subst hv
  exact W.zret F.1 F.2.1 hr hn (fun t ht _ => ⟨rfl, by rw [ht]; exact hP, hD, hS.F ht⟩) hS.2.2 hdg hlk
theorem ok_vretM (F : CallFix p m c cc nL s args Ts own) (hr : meth.sig.returnType = none) (hlk : meth.locks = false) (hP : va_P D cl ws' H) (hD : va_D A ws') (hS : va_S A s.heap H locs) (hdg : decode cc pc = .ok (.return_, 1)) : W p l e R s m args below meth c H locs 0 0 (MQ below (ok_qA D cl A ws' none) args s 0 0 A) (F0 m pc ls []) :=
  W.vret F.1 F.2.1 hr (fun t ht _ => ⟨rfl, by rw [ht]; exact hP, hD, hS.F ht⟩) hS.2.2 hdg hlk
-- calls
theorem ok_callR {v : Option Value} {a : Array Value} (hr : va_Run p l e R s m args below meth c H locs cells slots 0 0 (F0 m pc ls st0) rest (ok_R v a) (fun _ => False)) (kk : W p l e R s m args below meth c H locs cells slots Q (F0 m (pc + 3) ls (v.toList ++ rest))) : W p l e R s m args below meth c H locs cells slots Q (F0 m pc ls st0) := by
  intro T hT X
  obtain ⟨v', st₀, t, T', L, h0, X', hL, e1, -, ⟨hv, hh⟩, st⟩ := hr T hT X
  cases hv
  have hL' : L = [] := by
    cases L with
    | nil => rfl
    | cons x xs => exact (hL x List.mem_cons_self).elim
  subst hL'
  rw [List.append_nil] at X'
  obtain ⟨t2, a1, b1⟩ := kk T' (by rw [e1, hh, h0]) X'
  exact ⟨t2, st t2 a1, b1⟩
theorem ok_callM {v : Option Value} {a : Array Value} (hr : va_Run p l e R s m args below meth c H locs cells slots 0 0 (F0 m pc ls st0) rest (ok_qA D cl (va_A ws H.size) ws' v a) (va_A ws H.size)) (hD : va_D A ws) (hS : va_S A H0 H locs) (hA : ∀ q, H0.size ≤ q → A q)
    (kk : ∀ (H1 : Heap) (locs1 : List Loc), va_P D cl ws' H1 → va_D A ws' → va_S A H0 H1 locs1 → W p l e R s m args below meth c H1 locs1 cells slots Q (F0 m (pc + 3) ls (v.toList ++ rest))) : W p l e R s m args below meth c H locs cells slots Q (F0 m pc ls st0) := by
  have hfr : ∀ q, va_A ws H.size q → A q := by
    intro q hq
    rcases hq with ⟨k, e, hk⟩ | hq
    · exact hD.2 k _ hk
    · exact hA q (Nat.le_trans hS.1 hq)
  intro T hT X
  obtain ⟨v', st₀, t, T', L, h0, X', hL, e1, -, ⟨hv, hP1, hD1, hz, hk⟩, st⟩ := hr T hT X
  cases hv
  rw [h0] at hz hk
  rw [← e1] at hP1 hz hk
  obtain ⟨t2, a1, b1⟩ := kk T'.heap (locs ++ L) hP1 ⟨hD1.1, fun k q h => hfr _ (hD1.2 k q h)⟩
    ⟨Nat.le_trans hS.1 hz, fun q h1 h2 => by rw [hk q (Nat.lt_of_lt_of_le h1 hS.1) (fun z => h2 (hfr q z))]; exact hS.2.1 q h1 h2, fun q hq => by
      rcases List.mem_append.mp hq with h | h
      · exact hS.2.2 q h
      · exact hfr _ (hL q h)⟩ T' rfl X'
  exact ⟨t2, st t2 a1, b1⟩
variable {y : MethodName} {bytes : ByteArray} {maxL index n : Nat} {ret : Option FieldType} {wt wt' : List Cond} {rm : Room} {C : String} {b : Nat} {As : List Value} {v : Option Value}
/-- invokevirtual of an R method -/
theorem ok_VR (F : CallFix p m c cc nL s args Ts own) (hM : ok_MR l y wt rm D cl tys ws (.ref b :: As) v) (n : Nat) (hG : GoodIn Ts (wsV own index C y wt)) (hw : wt = Cond.code y bytes maxL ret :: wt') (hz : rm.cells = 0 ∧ rm.slots = 0)
    (hd : y.cls = C ∧ y.cls ≠ "java/lang/invoke/MethodHandle" ∧ y.cls ≠ "java/lang/invoke/VarHandle" ∧ (parseMethodDescriptor y.desc).map (fun d => d.parameters.length) = some n) (hR : rm.frames + 1 ≤ R.frames ∧ 8 + (maxL + 11) + rm.locals ≤ R.locals)
    (hK : va_K D cl tys s) (hP : va_P D cl ws H) (q0 ci : Nat) {q : vw_C} {fs : List Value} (hq : cl[ci]? = some q) (hqC : q.1 = C) (he : ws[q0]? = some (b, .inr (ci, fs))) (hn : As.length = n) (hsz : ls.size = nL) (hst : st0 = As.reverse ++ .ref b :: rest) (hW : (rest.map fun v => v.category).sum ≤ 8) (hcs : cells ≤ R.cells ∧ slots ≤ R.slots) (hdg : decode cc pc = .ok (.invokevirtual index, 3))
    (kk : W p l e R s m args below meth c H locs cells slots Q (F0 m (pc + 3) ls (v.toList ++ rest))) : W p l e R s m args below meth c H locs cells slots Q (F0 m pc ls st0) := by
  subst hst
  exact ok_callR (va_runV (As := As) (rest := rest) F hM (cwV n F.2.2.2.2 hG hw hz.1 hz.2 hd hR) ⟨ok_blR, by rw [← hqC]; exact va_recv hK hP hq he, fun U hU hW9 => ⟨rfl, by rw [hU]; exact hP, va_K.moved hW9.alike hK⟩⟩ rfl hn hsz rfl (lv_room hW) hdg ⟨hcs.1, hcs.2⟩) kk
/-- invokevirtual of an M method over the same world -/
theorem ok_VM (F : CallFix p m c cc nL s args Ts own) (hM : ok_MM l y wt rm D cl tys ws ws' (.ref b :: As) v) (n : Nat) (hG : GoodIn Ts (wsV own index C y wt)) (hw : wt = Cond.code y bytes maxL ret :: wt') (hz : rm.cells = 0 ∧ rm.slots = 0)
    (hd : y.cls = C ∧ y.cls ≠ "java/lang/invoke/MethodHandle" ∧ y.cls ≠ "java/lang/invoke/VarHandle" ∧ (parseMethodDescriptor y.desc).map (fun d => d.parameters.length) = some n) (hR : rm.frames + 1 ≤ R.frames ∧ 8 + (maxL + 11) + rm.locals ≤ R.locals)
    (hK : va_K D cl tys s) (hP : va_P D cl ws H) (hD : va_D A ws) (hS : va_S A H0 H locs) (hA : ∀ q, H0.size ≤ q → A q) (q0 ci : Nat) {q : vw_C} {fs : List Value} (hq : cl[ci]? = some q) (hqC : q.1 = C) (he : ws[q0]? = some (b, .inr (ci, fs))) (hn : As.length = n) (hsz : ls.size = nL) (hst : st0 = As.reverse ++ .ref b :: rest) (hW : (rest.map fun v => v.category).sum ≤ 8) (hcs : cells ≤ R.cells ∧ slots ≤ R.slots) (hdg : decode cc pc = .ok (.invokevirtual index, 3))
    (kk : ∀ (H1 : Heap) (locs1 : List Loc), va_P D cl ws' H1 → va_D A ws' → va_S A H0 H1 locs1 → W p l e R s m args below meth c H1 locs1 cells slots Q (F0 m (pc + 3) ls (v.toList ++ rest))) : W p l e R s m args below meth c H locs cells slots Q (F0 m pc ls st0) := by
  subst hst
  exact ok_callM (va_runV (As := As) (rest := rest) F (hM H.size) (cwV n F.2.2.2.2 hG hw hz.1 hz.2 hd hR) ⟨ok_blM, by rw [← hqC]; exact va_recv hK hP hq he, fun U hU hW9 => ⟨rfl, by rw [hU], by rw [hU]; exact hP, va_K.moved hW9.alike hK, hD.weaken (fun _ _ _ _ => trivial)⟩⟩ rfl hn hsz rfl (lv_room hW) hdg ⟨hcs.1, hcs.2⟩) hD hS hA kk
/-- invokestatic of an R method of the own class -/
theorem ok_SR (F : CallFix p m c cc nL s args Ts own) (hM : ok_MR l y wt rm D cl tys ws As v) (n : Nat) (hG : GoodIn Ts (wsS own index y wt)) (hw : wt = Cond.code y bytes maxL ret :: wt') (hz : rm.cells = 0 ∧ rm.slots = 0)
    (hd : y.cls = own ∧ y.cls ≠ "java/lang/invoke/MethodHandle" ∧ y.cls ≠ "java/lang/invoke/VarHandle" ∧ (parseMethodDescriptor y.desc).map (fun d => d.parameters.length) = some n) (hR : rm.frames + 1 ≤ R.frames ∧ 8 + (maxL + 11) + rm.locals ≤ R.locals)
    (hK : va_K D cl tys s) (hP : va_P D cl ws H) (hn : As.length = n) (hsz : ls.size = nL) (hst : st0 = As.reverse ++ rest) (hW : (rest.map fun v => v.category).sum ≤ 8) (hcs : cells ≤ R.cells ∧ slots ≤ R.slots) (hdg : decode cc pc = .ok (.invokestatic index, 3))
    (kk : W p l e R s m args below meth c H locs cells slots Q (F0 m (pc + 3) ls (v.toList ++ rest))) : W p l e R s m args below meth c H locs cells slots Q (F0 m pc ls st0) := by
  subst hst
  exact ok_callR (va_runS (As := As) (rest := rest) F hM (cwS n F.2.2.2.2 hG hw hz.1 hz.2 hd hR) ⟨ok_blR, fun U hU hW9 => ⟨rfl, by rw [hU]; exact hP, va_K.moved hW9.alike hK⟩⟩ rfl hn hsz rfl (lv_room hW) hdg ⟨hcs.1, hcs.2⟩) kk
/-- invokestatic of an R method of another class -/
theorem ok_SRJ (F : CallFix p m c cc nL s args Ts own) (hM : ok_MR l y wt rm D cl tys ws As v) (n : Nat) (hG : GoodIn Ts (va_wsS own index y wt)) (hw : wt = Cond.code y bytes maxL ret :: wt') (hz : rm.cells = 0 ∧ rm.slots = 0)
    (hd : y.cls ≠ "java/lang/invoke/MethodHandle" ∧ y.cls ≠ "java/lang/invoke/VarHandle" ∧ (parseMethodDescriptor y.desc).map (fun d => d.parameters.length) = some n) (hR : rm.frames + 1 ≤ R.frames ∧ 8 + (maxL + 11) + rm.locals ≤ R.locals)
    (hK : va_K D cl tys s) (hP : va_P D cl ws H) (hn : As.length = n) (hsz : ls.size = nL) (hst : st0 = As.reverse ++ rest) (hW : (rest.map fun v => v.category).sum ≤ 8) (hcs : cells ≤ R.cells ∧ slots ≤ R.slots) (hdg : decode cc pc = .ok (.invokestatic index, 3))
    (kk : W p l e R s m args below meth c H locs cells slots Q (F0 m (pc + 3) ls (v.toList ++ rest))) : W p l e R s m args below meth c H locs cells slots Q (F0 m pc ls st0) := by
  subst hst
  exact ok_callR (va_runS (As := As) (rest := rest) F hM (va_cwS n F.2.2.2.2 hG hw hz.1 hz.2 hd hR) ⟨ok_blR, fun U hU hW9 => ⟨rfl, by rw [hU]; exact hP, va_K.moved hW9.alike hK⟩⟩ rfl hn hsz rfl (lv_room hW) hdg ⟨hcs.1, hcs.2⟩) kk
-- fields and arrays
theorem ok_get (F : CallFix p m c cc nL s args Ts own) (hK : va_K D cl tys s) (hP : va_P D cl ws H) {C : String} {T : u_T} {N ci index a : Nat} {fs : List Value} {v : Value} (hin : ∀ w ∈ u_ws C T N, w ∈ Ts) (q0 k : Nat) (he : ws[q0]? = some (a, .inr (ci, fs))) (hc : cl[ci]? = some (C, T, N)) (hk : k < N) (hl : Cond.fieldLink own index (T k).1 (T k).2.1 (T k).2.2.1 ∈ Ts) (hv : fs[k]? = some v) (hdg : decode cc pc = .ok (.getfield index, 3))
    (kk : W p l e R s m args below meth c H locs cells slots Q (F0 m (pc + 3) ls (v :: rest))) : W p l e R s m args below meth c H locs cells slots Q (F0 m pc ls (.ref a :: rest)) :=
  va_get F.1 F.2.1 F.2.2.2.2 hin F.2.2.2.1 hK hP q0 he hc k hk (F.2.2.2.2 _ hl) (fun _ h => h) hv hdg kk
theorem ok_put (F : CallFix p m c cc nL s args Ts own) (hK : va_K D cl tys s) (hP : va_P D cl ws H) (hD : va_D A ws) (hS : va_S A H0 H locs) {C : String} {T : u_T} {N ci index a : Nat} {fs : List Value} {v : Value} (ty0 : Nat → FieldType) (hty : ∀ k, k < N → parseFieldDescriptor (T k).2.2.1 = some (ty0 k)) (hnm : ∀ a, a < N → ∀ b, b < N → a ≠ b → (T a).2.1 ≠ (T b).2.1)
    (hin : ∀ w ∈ u_ws C T N, w ∈ Ts) (q0 k : Nat) (he : ws[q0]? = some (a, .inr (ci, fs))) (hc : cl[ci]? = some (C, T, N)) (hk : k < N) (hl : Cond.fieldLink own index (T k).1 (T k).2.1 (T k).2.2.1 ∈ Ts) (hfin : (T k).2.2.2 = false) {ty : FieldType} (hd : parseFieldDescriptor (T k).2.2.1 = some ty) (hn : narrow ty v = v) (hfit : fits ty v = true) (hlen : k < fs.length) (hs : ws.set q0 (a, .inr (ci, fs.set k v)) = ws') (hdg : decode cc pc = .ok (.putfield index, 3))
    (kk : ∀ (H1 : Heap) (locs1 : List Loc), va_P D cl ws' H1 → va_D A ws' → va_S A H0 H1 locs1 → W p l e R s m args below meth c H1 locs1 cells slots Q (F0 m (pc + 3) ls rest)) : W p l e R s m args below meth c H locs cells slots Q (F0 m pc ls (v :: .ref a :: rest)) := by
  subst hs
  exact va_put F.1 F.2.1 F.2.2.2.2 hin ty0 hty hnm F.2.2.2.1 hK hP hD hS q0 he hc k hk (F.2.2.2.2 _ hl) (fun _ h => h) hfin hd hn hfit hlen hdg kk
theorem ok_iald (F : CallFix p m c cc nL s args Ts own) (hK : va_K D cl tys s) (hP : va_P D cl ws H) (q0 t0 : Nat) {cA : ClassId} {n a : Nat} {f : Nat → Int32} (ha : ws[q0]? = some (a, .inl (cA, n, .inl f))) (ht : tys[t0]? = some (cA, .int)) {x : Int32} {j : Nat} (hx : x = nI j) (hj : j < n) (hn : n < 2 ^ 31) (hdg : decode cc pc = .ok (.iaload, 1))
    (kk : W p l e R s m args below meth c H locs cells slots Q (F0 m (pc + 1) ls (.int (f j) :: rest))) : W p l e R s m args below meth c H locs cells slots Q (F0 m pc ls (.int x :: .ref a :: rest)) := by
  subst hx
  refine va_iald F.1 F.2.1 hK hP q0 t0 ha ht (vp_in_nI hj hn) hdg ?_
  rw [nI_clamp (by omega)]
  exact kk
theorem ok_iast (F : CallFix p m c cc nL s args Ts own) (hK : va_K D cl tys s) (hP : va_P D cl ws H) (hD : va_D A ws) (hS : va_S A H0 H locs) (q0 t0 : Nat) {cA : ClassId} {n a : Nat} {f : Nat → Int32} (ha : ws[q0]? = some (a, .inl (cA, n, .inl f))) (ht : tys[t0]? = some (cA, .int)) {x v : Int32} {j : Nat} (hx : x = nI j) (hj : j < n) (hn : n < 2 ^ 31) (hs : ws.set q0 (a, .inl (cA, n, .inl (upd f j v))) = ws') (hdg : decode cc pc = .ok (.iastore, 1))
    (kk : ∀ (H1 : Heap) (locs1 : List Loc), va_P D cl ws' H1 → va_D A ws' → va_S A H0 H1 locs1 → W p l e R s m args below meth c H1 locs1 cells slots Q (F0 m (pc + 1) ls rest)) : W p l e R s m args below meth c H locs cells slots Q (F0 m pc ls (.int v :: .int x :: .ref a :: rest)) := by
  subst hx
  subst hs
  refine va_iast F.1 F.2.1 hK hP hD hS q0 t0 ha ht (vp_in_nI hj hn) hdg ?_
  rw [nI_clamp (by omega)]
  exact kk
theorem ok_aald (F : CallFix p m c cc nL s args Ts own) (hK : va_K D cl tys s) (hP : va_P D cl ws H) (q0 t0 : Nat) {cA : ClassId} {C : String} {n a b : Nat} {f : Nat → Option Nat} (ha : ws[q0]? = some (a, .inl (cA, n, .inr (.inr (.inr (.inr f)))))) (ht : tys[t0]? = some (cA, .object C)) {x : Int32} {j : Nat} (hx : x = nI j) (hj : j < n) (hn : n < 2 ^ 31) (hf : f j = some b) (hdg : decode cc pc = .ok (.aaload, 1))
    (kk : W p l e R s m args below meth c H locs cells slots Q (F0 m (pc + 1) ls (.ref b :: rest))) : W p l e R s m args below meth c H locs cells slots Q (F0 m pc ls (.int x :: .ref a :: rest)) := by
  subst hx
  refine va_aldq F.1 F.2.1 hK hP q0 t0 ha ht (vp_in_nI hj hn) hdg ?_
  rw [nI_clamp (by omega), hf]
  exact kk
theorem ok_aretR (F : CallFix p m c cc nL s args Ts own) {rt : String} (hr : meth.sig.returnType = some (.object rt)) (hlk : meth.locks = false) {v r : Nat} (hv : v = r) (hdg : decode cc pc = .ok (.areturn, 1)) : W p l e R s m args below meth c s.heap [] 0 0 (MQ below (ok_R (some (.ref r))) args s 0 0 (fun _ => False)) (F0 m pc ls [.ref v]) := by
  subst hv
  exact W.aret F.1 F.2.1 hr (Or.inl ⟨_, rfl⟩) (Or.inr ⟨_, rfl⟩) (fun t ht _ => ⟨rfl, ht⟩) (fun _ h => by cases h) hdg hlk
theorem j_max_s : Cond.static Lib.Math.max.name ∈ tt := (tt1 218 rfl rfl)
theorem j_max_c : Cond.code Lib.Math.max.name Lib.Math.max.code 2 (some .int) ∈ tt := (tt1 219 rfl rfl)
theorem ok_mmax {cw : Cond} {index : Nat} {x y : Int32} (F : CallFix p m c cc nL s args (cw :: tt) own) (hl : Cond.methodLink own index Lib.Math.max.name ∈ cw :: tt) (hsz : ls.size = nL) (hframes : 1 ≤ R.frames) (hlocals : (rest.map fun v => v.category).sum + 13 ≤ R.locals) (hc : cells ≤ R.cells) (hs : slots ≤ R.slots) (hdg : decode cc pc = .ok (.invokestatic index, 3)) (kk : W p l e R s m args below meth c H locs cells slots Q (F0 m (pc + 3) ls (.int (if x < y then y else x) :: rest))) : W p l e R s m args below meth c H locs cells slots Q (F0 m pc ls (.int y :: .int x :: rest)) :=
  va_mmax F.1 F.2.1 (F.2.2.1.trans hsz.symm) F.2.2.2.1 (F.2.2.2.2 _ hl) (F.2.2.2.2 _ (List.mem_cons_of_mem _ j_max_s)) (F.2.2.2.2 _ (List.mem_cons_of_mem _ (tt1 13 rfl rfl))) (F.2.2.2.2 _ (List.mem_cons_of_mem _ j_max_c)) hframes hlocals hc hs hdg kk
theorem j_min_s : Cond.static Lib.Math.min.name ∈ tt := (tt1 215 rfl rfl)
theorem j_min_c : Cond.code Lib.Math.min.name Lib.Math.min.code 2 (some .int) ∈ tt := (tt1 216 rfl rfl)
theorem ok_mmin {cw : Cond} {index : Nat} {x y : Int32} (F : CallFix p m c cc nL s args (cw :: tt) own) (hl : Cond.methodLink own index Lib.Math.min.name ∈ cw :: tt) (hsz : ls.size = nL) (hframes : 1 ≤ R.frames) (hlocals : (rest.map fun v => v.category).sum + 13 ≤ R.locals) (hc : cells ≤ R.cells) (hs : slots ≤ R.slots) (hdg : decode cc pc = .ok (.invokestatic index, 3)) (kk : W p l e R s m args below meth c H locs cells slots Q (F0 m (pc + 3) ls (.int (if y < x then y else x) :: rest))) : W p l e R s m args below meth c H locs cells slots Q (F0 m pc ls (.int y :: .int x :: rest)) :=
  va_mmin F.1 F.2.1 (F.2.2.1.trans hsz.symm) F.2.2.2.1 (F.2.2.2.2 _ hl) (F.2.2.2.2 _ (List.mem_cons_of_mem _ j_min_s)) (F.2.2.2.2 _ (List.mem_cons_of_mem _ (tt1 13 rfl rfl))) (F.2.2.2.2 _ (List.mem_cons_of_mem _ j_min_c)) hframes hlocals hc hs hdg kk
theorem nI_inc (k : Nat) : nI k + Int32.ofInt 1 = nI (k + 1) := (nI_succ k).symm
end OKIT
/-! A WORLD BY NUMBERS: n cells, the k-th at ad k with the content ce k -/
def fw (n : Nat) (ad : Nat → Nat) (ce : Nat → va_E) : va_W := (List.range n).map (fun k => (ad k, ce k))
theorem fw_at {n : Nat} {ad : Nat → Nat} {ce : Nat → va_E} {k : Nat} (h : k < n) : (fw n ad ce)[k]? = some (ad k, ce k) := by
  simp [fw, h]
theorem fw_set {n : Nat} {ad : Nat → Nat} {ce ce' : Nat → va_E} {k : Nat} {e : va_E} (h1 : ce' k = e) (h2 : ∀ j, j ≠ k → ce' j = ce j) : (fw n ad ce).set k (ad k, e) = fw n ad ce' := by
  apply List.ext_getElem?
  intro j
  rw [List.getElem?_set]
  by_cases hjk : k = j
  · subst hjk
    by_cases hk : k < n
    · simp [fw, hk, h1]
    · simp [fw, hk]
  · rw [if_neg hjk]
    by_cases hj : j < n
    · rw [fw_at hj, fw_at hj, h2 j (fun q => hjk q.symm)]
    · simp [fw, hj]
end
section
/-! THE CLASS'S WORLD. The state σ: component, line, place; cell k lies at ad k. cells: 0 OrderBounds, 1 Columns, 2 worths, 3 tops, 4 Lines, 5 rows, 6 cuts, 7 Search, 8 numbers, 9 bestNumbers, 10 worths, 11 hopes, 12 Follows, 13 behind, 4 i + 14 line i (0 .. 3 rows, 4 .. 7 cuts), 4 i + 15 its factors, 4 i + 16 sums, 4 i + 17 helps.
components: 0 worths, 1 tops, 2 count; of line i: 3 factors, 4 kind, 5 right, 6 weight, 7 sums, 8 helps; 9 rowCount, 10 cutCount; 11 numbers, 12 bestNumbers, 13 worths, 14 hopes, 15 at, 16 steps, 17 found, 18 bestWorth; 19 behind, 20 count -/
abbrev oS : Type := Nat → Nat → Nat → Int32
def uA (σ : oS) (c i : Nat) (f : Nat → Int32) : oS := fun c9 i9 => if c9 = c ∧ i9 = i then f else σ c9 i9
def u3 (σ : oS) (c i j : Nat) (v : Int32) : oS := uA σ c i (upd (σ c i) j v)
theorem uA_s {σ : oS} {c i : Nat} {f : Nat → Int32} : uA σ c i f c i = f := by simp [uA]
theorem uA_n {σ : oS} {c i : Nat} {f : Nat → Int32} {c9 i9 : Nat} (h : ¬ (c9 = c ∧ i9 = i)) : uA σ c i f c9 i9 = σ c9 i9 := by simp only [uA, if_neg h]
theorem u3_s {σ : oS} {c i j : Nat} {v : Int32} : u3 σ c i j v c i j = v := by simp [u3, uA, upd]
theorem u3_j {σ : oS} {c i j j9 : Nat} {v : Int32} (h : j9 ≠ j) : u3 σ c i j v c i j9 = σ c i j9 := by simp [u3, uA, upd, h]
theorem u3_i {σ : oS} {c i j : Nat} {v : Int32} {i9 : Nat} (h : i9 ≠ i) : u3 σ c i j v c i9 = σ c i9 := by simp [u3, uA, h]
theorem u3_c {σ : oS} {c i j : Nat} {v : Int32} {c9 : Nat} (h : c9 ≠ c) : u3 σ c i j v c9 = σ c9 := by funext i9; simp [u3, uA, h]
theorem u3_at {σ : oS} {c i j : Nat} {v : Int32} {c9 i9 j9 : Nat} : u3 σ c i j v c9 i9 j9 = if c9 = c ∧ i9 = i ∧ j9 = j then v else σ c9 i9 j9 := by
  by_cases h : c9 = c ∧ i9 = i
  · obtain ⟨rfl, rfl⟩ := h
    simp [u3, uA, upd]
  · rw [show u3 σ c i j v c9 i9 = σ c9 i9 from uA_n h, if_neg (fun q => h ⟨q.1, q.2.1⟩)]
def ob_b (cI cL : ClassId) (ad : Nat → Nat) (σ : oS) (k : Nat) : va_E := match k with
  | 0 => .inr (5, [.ref (ad 1), .ref (ad 4), .ref (ad 7), .ref (ad 12)])
  | 1 => .inr (0, [.ref (ad 2), .ref (ad 3), .int (σ 2 0 0)])
  | 2 => .inl (cI, 5, .inl (σ 0 0))
  | 3 => .inl (cI, 5, .inl (σ 1 0))
  | 4 => .inr (2, [.ref (ad 5), .ref (ad 6), .int (σ 9 0 0), .int (σ 10 0 0)])
  | 5 => .inl (cL, 4, .inr (.inr (.inr (.inr (fun q => some (ad (4 * q + 14)))))))
  | 6 => .inl (cL, 4, .inr (.inr (.inr (.inr (fun q => some (ad (4 * (q + 4) + 14)))))))
  | 7 => .inr (3, [.ref (ad 1), .ref (ad 4), .ref (ad 8), .ref (ad 9), .ref (ad 10), .ref (ad 11), .int (σ 15 0 0), .int (σ 16 0 0), .int (σ 17 0 0), .int (σ 18 0 0)])
  | 8 => .inl (cI, 5, .inl (σ 11 0))
  | 9 => .inl (cI, 5, .inl (σ 12 0))
  | 10 => .inl (cI, 6, .inl (σ 13 0))
  | 11 => .inl (cI, 6, .inl (σ 14 0))
  | 12 => .inr (4, [.ref (ad 13), .int (σ 20 0 0)])
  | _ => .inl (cI, 5, .inl (σ 19 0))
def ob_l (cI : ClassId) (ad : Nat → Nat) (σ : oS) (i j : Nat) : va_E := match j with
  | 0 => .inr (1, [.ref (ad (4 * i + 15)), .int (σ 4 i 0), .int (σ 5 i 0), .int (σ 6 i 0), .ref (ad (4 * i + 16)), .ref (ad (4 * i + 17))])
  | 1 => .inl (cI, 5, .inl (σ 3 i))
  | 2 => .inl (cI, 6, .inl (σ 7 i))
  | _ => .inl (cI, 6, .inl (σ 8 i))
def oc (cI cL : ClassId) (ad : Nat → Nat) (σ : oS) (k : Nat) : va_E := if k < 14 then ob_b cI cL ad σ k else ob_l cI ad σ ((k - 14) / 4) ((k - 14) % 4)
def ow (cI cL : ClassId) (ad : Nat → Nat) (σ : oS) : va_W := fw 46 ad (oc cI cL ad σ)
abbrev ot (cI cL : ClassId) : List (ClassId × FieldType) := [(cI, .int), (cL, .object "OrderBounds$Line")]
/-- the cell of a component -/
def ob_k (c i : Nat) : Nat := match c with
  | 0 => 2
  | 1 => 3
  | 2 => 1
  | 3 => 4 * i + 15
  | 4 => 4 * i + 14
  | 5 => 4 * i + 14
  | 6 => 4 * i + 14
  | 7 => 4 * i + 16
  | 8 => 4 * i + 17
  | 9 => 4
  | 10 => 4
  | 11 => 8
  | 12 => 9
  | 13 => 10
  | 14 => 11
  | 15 => 7
  | 16 => 7
  | 17 => 7
  | 18 => 7
  | 19 => 13
  | _ => 12
section OW
variable {cI cL : ClassId} {ad : Nat → Nat} {σ τ : oS}
theorem oc_l0 {i : Nat} : oc cI cL ad σ (4 * i + 14) = ob_l cI ad σ i 0 := by
  unfold oc
  rw [if_neg (by omega), show (4 * i + 14 - 14) / 4 = i by omega, show (4 * i + 14 - 14) % 4 = 0 by omega]
theorem oc_l1 {i : Nat} : oc cI cL ad σ (4 * i + 15) = ob_l cI ad σ i 1 := by
  unfold oc
  rw [if_neg (by omega), show (4 * i + 15 - 14) / 4 = i by omega, show (4 * i + 15 - 14) % 4 = 1 by omega]
theorem oc_l2 {i : Nat} : oc cI cL ad σ (4 * i + 16) = ob_l cI ad σ i 2 := by
  unfold oc
  rw [if_neg (by omega), show (4 * i + 16 - 14) / 4 = i by omega, show (4 * i + 16 - 14) % 4 = 2 by omega]
theorem oc_l3 {i : Nat} : oc cI cL ad σ (4 * i + 17) = ob_l cI ad σ i 3 := by
  unfold oc
  rw [if_neg (by omega), show (4 * i + 17 - 14) / 4 = i by omega, show (4 * i + 17 - 14) % 4 = 3 by omega]
theorem oc_ext {k : Nat} (h : ∀ c i, ob_k c i = k → σ c i = τ c i) : oc cI cL ad σ k = oc cI cL ad τ k := by
  by_cases hk : k < 14
  · have hk9 : k = 0 ∨ k = 1 ∨ k = 2 ∨ k = 3 ∨ k = 4 ∨ k = 5 ∨ k = 6 ∨ k = 7 ∨ k = 8 ∨ k = 9 ∨ k = 10 ∨ k = 11 ∨ k = 12 ∨ k = 13 := by omega
    rcases hk9 with rfl | rfl | rfl | rfl | rfl | rfl | rfl | rfl | rfl | rfl | rfl | rfl | rfl | rfl
    · rfl
    · show ob_b cI cL ad σ 1 = ob_b cI cL ad τ 1
      simp only [ob_b, h 2 0 rfl]
    · show ob_b cI cL ad σ 2 = ob_b cI cL ad τ 2
      simp only [ob_b, h 0 0 rfl]
    · show ob_b cI cL ad σ 3 = ob_b cI cL ad τ 3
      simp only [ob_b, h 1 0 rfl]
    · show ob_b cI cL ad σ 4 = ob_b cI cL ad τ 4
      simp only [ob_b, h 9 0 rfl, h 10 0 rfl]
    · rfl
    · rfl
    · show ob_b cI cL ad σ 7 = ob_b cI cL ad τ 7
      simp only [ob_b, h 15 0 rfl, h 16 0 rfl, h 17 0 rfl, h 18 0 rfl]
    · show ob_b cI cL ad σ 8 = ob_b cI cL ad τ 8
      simp only [ob_b, h 11 0 rfl]
    · show ob_b cI cL ad σ 9 = ob_b cI cL ad τ 9
      simp only [ob_b, h 12 0 rfl]
    · show ob_b cI cL ad σ 10 = ob_b cI cL ad τ 10
      simp only [ob_b, h 13 0 rfl]
    · show ob_b cI cL ad σ 11 = ob_b cI cL ad τ 11
      simp only [ob_b, h 14 0 rfl]
    · show ob_b cI cL ad σ 12 = ob_b cI cL ad τ 12
      simp only [ob_b, h 20 0 rfl]
    · show ob_b cI cL ad σ 13 = ob_b cI cL ad τ 13
      simp only [ob_b, h 19 0 rfl]
  · obtain ⟨i, j, hj, rfl⟩ : ∃ i j, j < 4 ∧ k = 4 * i + (14 + j) := ⟨(k - 14) / 4, (k - 14) % 4, by omega, by omega⟩
    have hj9 : j = 0 ∨ j = 1 ∨ j = 2 ∨ j = 3 := by omega
    rcases hj9 with rfl | rfl | rfl | rfl
    · rw [oc_l0, oc_l0]
      simp only [ob_l, h 4 i rfl, h 5 i rfl, h 6 i rfl]
    · rw [oc_l1, oc_l1]
      simp only [ob_l, h 3 i rfl]
    · rw [oc_l2, oc_l2]
      simp only [ob_l, h 7 i rfl]
    · rw [oc_l3, oc_l3]
      simp only [ob_l, h 8 i rfl]
theorem ow_set {c i k : Nat} {f : Nat → Int32} {e : va_E} (hk : ob_k c i = k) (he : oc cI cL ad (uA σ c i f) k = e) : (ow cI cL ad σ).set k (ad k, e) = ow cI cL ad (uA σ c i f) :=
  fw_set he (fun q hq => oc_ext (fun c9 i9 h9 => uA_n (fun z => hq (by rw [← h9, z.1, z.2, hk]))))
theorem ow_0 : (ow cI cL ad σ)[0]? = some (ad 0, .inr (5, [.ref (ad 1), .ref (ad 4), .ref (ad 7), .ref (ad 12)])) := fw_at (by decide)
theorem ow_1 : (ow cI cL ad σ)[1]? = some (ad 1, .inr (0, [.ref (ad 2), .ref (ad 3), .int (σ 2 0 0)])) := fw_at (by decide)
theorem ow_2 : (ow cI cL ad σ)[2]? = some (ad 2, .inl (cI, 5, .inl (σ 0 0))) := fw_at (by decide)
theorem ow_3 : (ow cI cL ad σ)[3]? = some (ad 3, .inl (cI, 5, .inl (σ 1 0))) := fw_at (by decide)
theorem ow_4 : (ow cI cL ad σ)[4]? = some (ad 4, .inr (2, [.ref (ad 5), .ref (ad 6), .int (σ 9 0 0), .int (σ 10 0 0)])) := fw_at (by decide)
theorem ow_5 : (ow cI cL ad σ)[5]? = some (ad 5, .inl (cL, 4, .inr (.inr (.inr (.inr (fun q => some (ad (4 * q + 14)))))))) := fw_at (by decide)
theorem ow_6 : (ow cI cL ad σ)[6]? = some (ad 6, .inl (cL, 4, .inr (.inr (.inr (.inr (fun q => some (ad (4 * (q + 4) + 14)))))))) := fw_at (by decide)
theorem ow_7 : (ow cI cL ad σ)[7]? = some (ad 7, .inr (3, [.ref (ad 1), .ref (ad 4), .ref (ad 8), .ref (ad 9), .ref (ad 10), .ref (ad 11), .int (σ 15 0 0), .int (σ 16 0 0), .int (σ 17 0 0), .int (σ 18 0 0)])) := fw_at (by decide)
theorem ow_8 : (ow cI cL ad σ)[8]? = some (ad 8, .inl (cI, 5, .inl (σ 11 0))) := fw_at (by decide)
theorem ow_9 : (ow cI cL ad σ)[9]? = some (ad 9, .inl (cI, 5, .inl (σ 12 0))) := fw_at (by decide)
theorem ow_10 : (ow cI cL ad σ)[10]? = some (ad 10, .inl (cI, 6, .inl (σ 13 0))) := fw_at (by decide)
theorem ow_11 : (ow cI cL ad σ)[11]? = some (ad 11, .inl (cI, 6, .inl (σ 14 0))) := fw_at (by decide)
theorem ow_12 : (ow cI cL ad σ)[12]? = some (ad 12, .inr (4, [.ref (ad 13), .int (σ 20 0 0)])) := fw_at (by decide)
theorem ow_13 : (ow cI cL ad σ)[13]? = some (ad 13, .inl (cI, 5, .inl (σ 19 0))) := fw_at (by decide)
theorem ow_l0 {i : Nat} (hi : i < 8) : (ow cI cL ad σ)[4 * i + 14]? = some (ad (4 * i + 14), .inr (1, [.ref (ad (4 * i + 15)), .int (σ 4 i 0), .int (σ 5 i 0), .int (σ 6 i 0), .ref (ad (4 * i + 16)), .ref (ad (4 * i + 17))])) := by
  rw [show ow cI cL ad σ = fw 46 ad (oc cI cL ad σ) from rfl, fw_at (by omega), oc_l0]
  rfl
theorem ow_l1 {i : Nat} (hi : i < 8) : (ow cI cL ad σ)[4 * i + 15]? = some (ad (4 * i + 15), .inl (cI, 5, .inl (σ 3 i))) := by
  rw [show ow cI cL ad σ = fw 46 ad (oc cI cL ad σ) from rfl, fw_at (by omega), oc_l1]
  rfl
theorem ow_l2 {i : Nat} (hi : i < 8) : (ow cI cL ad σ)[4 * i + 16]? = some (ad (4 * i + 16), .inl (cI, 6, .inl (σ 7 i))) := by
  rw [show ow cI cL ad σ = fw 46 ad (oc cI cL ad σ) from rfl, fw_at (by omega), oc_l2]
  rfl
theorem ow_l3 {i : Nat} (hi : i < 8) : (ow cI cL ad σ)[4 * i + 17]? = some (ad (4 * i + 17), .inl (cI, 6, .inl (σ 8 i))) := by
  rw [show ow cI cL ad σ = fw 46 ad (oc cI cL ad σ) from rfl, fw_at (by omega), oc_l3]
  rfl
end OW
section OF
variable {p : Program} {l : Launch} {e : Env} {R : Room} {s : State} {m : MethodId} {args : Array Value} {below : List Frame} {meth : Method} {c : Code} {H : Heap} {locs : List Loc} {cells slots : Nat} {Q : State → Prop}
variable {cc : ByteArray} {pc nL : Nat} {ls : Array Slot} {rest st0 : List Value} {D : va_G} {A : Nat → Prop} {H0 : Heap} {cw : Cond} {cI cL : ClassId} {ad : Nat → Nat} {σ : oS} {i : Nat}
theorem gf_OB_columns (F : CallFix p m c cc nL s args (cw :: tt) ROB) (hK : va_K D vwCl (ot cI cL) s) (hP : va_P D vwCl (ow cI cL ad σ) H) (hdg : decode cc pc = .ok (.getfield 10, 3)) (kk : W p l e R s m args below meth c H locs cells slots Q (F0 m (pc + 3) ls (.ref (ad 1) :: rest))) : W p l e R s m args below meth c H locs cells slots Q (F0 m pc ls (.ref (ad 0) :: rest)) :=
  ok_get (C := ROB) (T := TOB) (N := 4) F hK hP (fun w h => List.mem_cons_of_mem _ (wuOB w h)) (0) 0 ow_0 rfl (by decide) (List.mem_cons_of_mem _ (tt1 137 rfl rfl)) rfl hdg kk
theorem gf_OB_lines (F : CallFix p m c cc nL s args (cw :: tt) ROB) (hK : va_K D vwCl (ot cI cL) s) (hP : va_P D vwCl (ow cI cL ad σ) H) (hdg : decode cc pc = .ok (.getfield 19, 3)) (kk : W p l e R s m args below meth c H locs cells slots Q (F0 m (pc + 3) ls (.ref (ad 4) :: rest))) : W p l e R s m args below meth c H locs cells slots Q (F0 m pc ls (.ref (ad 0) :: rest)) :=
  ok_get (C := ROB) (T := TOB) (N := 4) F hK hP (fun w h => List.mem_cons_of_mem _ (wuOB w h)) (0) 1 ow_0 rfl (by decide) (List.mem_cons_of_mem _ (tt1 138 rfl rfl)) rfl hdg kk
theorem gf_OB_search (F : CallFix p m c cc nL s args (cw :: tt) ROB) (hK : va_K D vwCl (ot cI cL) s) (hP : va_P D vwCl (ow cI cL ad σ) H) (hdg : decode cc pc = .ok (.getfield 28, 3)) (kk : W p l e R s m args below meth c H locs cells slots Q (F0 m (pc + 3) ls (.ref (ad 7) :: rest))) : W p l e R s m args below meth c H locs cells slots Q (F0 m pc ls (.ref (ad 0) :: rest)) :=
  ok_get (C := ROB) (T := TOB) (N := 4) F hK hP (fun w h => List.mem_cons_of_mem _ (wuOB w h)) (0) 2 ow_0 rfl (by decide) (List.mem_cons_of_mem _ (tt1 139 rfl rfl)) rfl hdg kk
theorem gf_OB_follows (F : CallFix p m c cc nL s args (cw :: tt) ROB) (hK : va_K D vwCl (ot cI cL) s) (hP : va_P D vwCl (ow cI cL ad σ) H) (hdg : decode cc pc = .ok (.getfield 35, 3)) (kk : W p l e R s m args below meth c H locs cells slots Q (F0 m (pc + 3) ls (.ref (ad 12) :: rest))) : W p l e R s m args below meth c H locs cells slots Q (F0 m pc ls (.ref (ad 0) :: rest)) :=
  ok_get (C := ROB) (T := TOB) (N := 4) F hK hP (fun w h => List.mem_cons_of_mem _ (wuOB w h)) (0) 3 ow_0 rfl (by decide) (List.mem_cons_of_mem _ (tt1 140 rfl rfl)) rfl hdg kk
theorem gf_Co_worths (F : CallFix p m c cc nL s args (cw :: tt) RCo) (hK : va_K D vwCl (ot cI cL) s) (hP : va_P D vwCl (ow cI cL ad σ) H) (hdg : decode cc pc = .ok (.getfield 9, 3)) (kk : W p l e R s m args below meth c H locs cells slots Q (F0 m (pc + 3) ls (.ref (ad 2) :: rest))) : W p l e R s m args below meth c H locs cells slots Q (F0 m pc ls (.ref (ad 1) :: rest)) :=
  ok_get (C := RCo) (T := TCo) (N := 3) F hK hP (fun w h => List.mem_cons_of_mem _ (wuCo w h)) (1) 0 ow_1 rfl (by decide) (List.mem_cons_of_mem _ (tt1 31 rfl rfl)) rfl hdg kk
theorem gf_Co_tops (F : CallFix p m c cc nL s args (cw :: tt) RCo) (hK : va_K D vwCl (ot cI cL) s) (hP : va_P D vwCl (ow cI cL ad σ) H) (hdg : decode cc pc = .ok (.getfield 15, 3)) (kk : W p l e R s m args below meth c H locs cells slots Q (F0 m (pc + 3) ls (.ref (ad 3) :: rest))) : W p l e R s m args below meth c H locs cells slots Q (F0 m pc ls (.ref (ad 1) :: rest)) :=
  ok_get (C := RCo) (T := TCo) (N := 3) F hK hP (fun w h => List.mem_cons_of_mem _ (wuCo w h)) (1) 1 ow_1 rfl (by decide) (List.mem_cons_of_mem _ (tt1 32 rfl rfl)) rfl hdg kk
theorem gf_Co_count (F : CallFix p m c cc nL s args (cw :: tt) RCo) (hK : va_K D vwCl (ot cI cL) s) (hP : va_P D vwCl (ow cI cL ad σ) H) (hdg : decode cc pc = .ok (.getfield 18, 3)) (kk : W p l e R s m args below meth c H locs cells slots Q (F0 m (pc + 3) ls (.int (σ 2 0 0) :: rest))) : W p l e R s m args below meth c H locs cells slots Q (F0 m pc ls (.ref (ad 1) :: rest)) :=
  ok_get (C := RCo) (T := TCo) (N := 3) F hK hP (fun w h => List.mem_cons_of_mem _ (wuCo w h)) (1) 2 ow_1 rfl (by decide) (List.mem_cons_of_mem _ (tt1 33 rfl rfl)) rfl hdg kk
theorem pf_Co_count {v : Int32} (F : CallFix p m c cc nL s args (cw :: tt) RCo) (hK : va_K D vwCl (ot cI cL) s) (hP : va_P D vwCl (ow cI cL ad σ) H) (hD : va_D A (ow cI cL ad σ)) (hS : va_S A H0 H locs) (hdg : decode cc pc = .ok (.putfield 18, 3)) (kk : ∀ (H1 : Heap) (locs1 : List Loc), va_P D vwCl (ow cI cL ad (u3 σ 2 0 0 v)) H1 → va_D A (ow cI cL ad (u3 σ 2 0 0 v)) → va_S A H0 H1 locs1 → W p l e R s m args below meth c H1 locs1 cells slots Q (F0 m (pc + 3) ls rest)) : W p l e R s m args below meth c H locs cells slots Q (F0 m pc ls (.int v :: .ref (ad 1) :: rest)) :=
  ok_put (C := RCo) (T := TCo) (N := 3) (ty := .int) F hK hP hD hS tyCo tkCo nmCo (fun w h => List.mem_cons_of_mem _ (wuCo w h)) (1) 2 ow_1 rfl (by decide) (List.mem_cons_of_mem _ (tt1 33 rfl rfl)) rfl (by decide +kernel) rfl rfl (Nat.le_of_ble_eq_true rfl) (ow_set (f := upd (σ 2 0) 0 v) rfl (by simp [oc, ob_b, uA, upd])) hdg kk
theorem gf_Ls_rows (F : CallFix p m c cc nL s args (cw :: tt) RLs) (hK : va_K D vwCl (ot cI cL) s) (hP : va_P D vwCl (ow cI cL ad σ) H) (hdg : decode cc pc = .ok (.getfield 11, 3)) (kk : W p l e R s m args below meth c H locs cells slots Q (F0 m (pc + 3) ls (.ref (ad 5) :: rest))) : W p l e R s m args below meth c H locs cells slots Q (F0 m pc ls (.ref (ad 4) :: rest)) :=
  ok_get (C := RLs) (T := TLs) (N := 4) F hK hP (fun w h => List.mem_cons_of_mem _ (wuLs w h)) (4) 0 ow_4 rfl (by decide) (List.mem_cons_of_mem _ (tt1 74 rfl rfl)) rfl hdg kk
theorem gf_Ls_cuts (F : CallFix p m c cc nL s args (cw :: tt) RLs) (hK : va_K D vwCl (ot cI cL) s) (hP : va_P D vwCl (ow cI cL ad σ) H) (hdg : decode cc pc = .ok (.getfield 17, 3)) (kk : W p l e R s m args below meth c H locs cells slots Q (F0 m (pc + 3) ls (.ref (ad 6) :: rest))) : W p l e R s m args below meth c H locs cells slots Q (F0 m pc ls (.ref (ad 4) :: rest)) :=
  ok_get (C := RLs) (T := TLs) (N := 4) F hK hP (fun w h => List.mem_cons_of_mem _ (wuLs w h)) (4) 1 ow_4 rfl (by decide) (List.mem_cons_of_mem _ (tt1 75 rfl rfl)) rfl hdg kk
theorem gf_Ls_rowCount (F : CallFix p m c cc nL s args (cw :: tt) RLs) (hK : va_K D vwCl (ot cI cL) s) (hP : va_P D vwCl (ow cI cL ad σ) H) (hdg : decode cc pc = .ok (.getfield 20, 3)) (kk : W p l e R s m args below meth c H locs cells slots Q (F0 m (pc + 3) ls (.int (σ 9 0 0) :: rest))) : W p l e R s m args below meth c H locs cells slots Q (F0 m pc ls (.ref (ad 4) :: rest)) :=
  ok_get (C := RLs) (T := TLs) (N := 4) F hK hP (fun w h => List.mem_cons_of_mem _ (wuLs w h)) (4) 2 ow_4 rfl (by decide) (List.mem_cons_of_mem _ (tt1 76 rfl rfl)) rfl hdg kk
theorem pf_Ls_rowCount {v : Int32} (F : CallFix p m c cc nL s args (cw :: tt) RLs) (hK : va_K D vwCl (ot cI cL) s) (hP : va_P D vwCl (ow cI cL ad σ) H) (hD : va_D A (ow cI cL ad σ)) (hS : va_S A H0 H locs) (hdg : decode cc pc = .ok (.putfield 20, 3)) (kk : ∀ (H1 : Heap) (locs1 : List Loc), va_P D vwCl (ow cI cL ad (u3 σ 9 0 0 v)) H1 → va_D A (ow cI cL ad (u3 σ 9 0 0 v)) → va_S A H0 H1 locs1 → W p l e R s m args below meth c H1 locs1 cells slots Q (F0 m (pc + 3) ls rest)) : W p l e R s m args below meth c H locs cells slots Q (F0 m pc ls (.int v :: .ref (ad 4) :: rest)) :=
  ok_put (C := RLs) (T := TLs) (N := 4) (ty := .int) F hK hP hD hS tyLs tkLs nmLs (fun w h => List.mem_cons_of_mem _ (wuLs w h)) (4) 2 ow_4 rfl (by decide) (List.mem_cons_of_mem _ (tt1 76 rfl rfl)) rfl (by decide +kernel) rfl rfl (Nat.le_of_ble_eq_true rfl) (ow_set (f := upd (σ 9 0) 0 v) rfl (by simp [oc, ob_b, uA, upd])) hdg kk
theorem gf_Ls_cutCount (F : CallFix p m c cc nL s args (cw :: tt) RLs) (hK : va_K D vwCl (ot cI cL) s) (hP : va_P D vwCl (ow cI cL ad σ) H) (hdg : decode cc pc = .ok (.getfield 24, 3)) (kk : W p l e R s m args below meth c H locs cells slots Q (F0 m (pc + 3) ls (.int (σ 10 0 0) :: rest))) : W p l e R s m args below meth c H locs cells slots Q (F0 m pc ls (.ref (ad 4) :: rest)) :=
  ok_get (C := RLs) (T := TLs) (N := 4) F hK hP (fun w h => List.mem_cons_of_mem _ (wuLs w h)) (4) 3 ow_4 rfl (by decide) (List.mem_cons_of_mem _ (tt1 77 rfl rfl)) rfl hdg kk
theorem pf_Ls_cutCount {v : Int32} (F : CallFix p m c cc nL s args (cw :: tt) RLs) (hK : va_K D vwCl (ot cI cL) s) (hP : va_P D vwCl (ow cI cL ad σ) H) (hD : va_D A (ow cI cL ad σ)) (hS : va_S A H0 H locs) (hdg : decode cc pc = .ok (.putfield 24, 3)) (kk : ∀ (H1 : Heap) (locs1 : List Loc), va_P D vwCl (ow cI cL ad (u3 σ 10 0 0 v)) H1 → va_D A (ow cI cL ad (u3 σ 10 0 0 v)) → va_S A H0 H1 locs1 → W p l e R s m args below meth c H1 locs1 cells slots Q (F0 m (pc + 3) ls rest)) : W p l e R s m args below meth c H locs cells slots Q (F0 m pc ls (.int v :: .ref (ad 4) :: rest)) :=
  ok_put (C := RLs) (T := TLs) (N := 4) (ty := .int) F hK hP hD hS tyLs tkLs nmLs (fun w h => List.mem_cons_of_mem _ (wuLs w h)) (4) 3 ow_4 rfl (by decide) (List.mem_cons_of_mem _ (tt1 77 rfl rfl)) rfl (by decide +kernel) rfl rfl (Nat.le_of_ble_eq_true rfl) (ow_set (f := upd (σ 10 0) 0 v) rfl (by simp [oc, ob_b, uA, upd])) hdg kk
theorem gf_Se_columns (F : CallFix p m c cc nL s args (cw :: tt) RSe) (hK : va_K D vwCl (ot cI cL) s) (hP : va_P D vwCl (ow cI cL ad σ) H) (hdg : decode cc pc = .ok (.getfield 38, 3)) (kk : W p l e R s m args below meth c H locs cells slots Q (F0 m (pc + 3) ls (.ref (ad 1) :: rest))) : W p l e R s m args below meth c H locs cells slots Q (F0 m pc ls (.ref (ad 7) :: rest)) :=
  ok_get (C := RSe) (T := TSe) (N := 10) F hK hP (fun w h => List.mem_cons_of_mem _ (wuSe w h)) (7) 0 ow_7 rfl (by decide) (List.mem_cons_of_mem _ (tt1 93 rfl rfl)) rfl hdg kk
theorem gf_Se_lines (F : CallFix p m c cc nL s args (cw :: tt) RSe) (hK : va_K D vwCl (ot cI cL) s) (hP : va_P D vwCl (ow cI cL ad σ) H) (hdg : decode cc pc = .ok (.getfield 42, 3)) (kk : W p l e R s m args below meth c H locs cells slots Q (F0 m (pc + 3) ls (.ref (ad 4) :: rest))) : W p l e R s m args below meth c H locs cells slots Q (F0 m pc ls (.ref (ad 7) :: rest)) :=
  ok_get (C := RSe) (T := TSe) (N := 10) F hK hP (fun w h => List.mem_cons_of_mem _ (wuSe w h)) (7) 1 ow_7 rfl (by decide) (List.mem_cons_of_mem _ (tt1 94 rfl rfl)) rfl hdg kk
theorem gf_Se_numbers (F : CallFix p m c cc nL s args (cw :: tt) RSe) (hK : va_K D vwCl (ot cI cL) s) (hP : va_P D vwCl (ow cI cL ad σ) H) (hdg : decode cc pc = .ok (.getfield 9, 3)) (kk : W p l e R s m args below meth c H locs cells slots Q (F0 m (pc + 3) ls (.ref (ad 8) :: rest))) : W p l e R s m args below meth c H locs cells slots Q (F0 m pc ls (.ref (ad 7) :: rest)) :=
  ok_get (C := RSe) (T := TSe) (N := 10) F hK hP (fun w h => List.mem_cons_of_mem _ (wuSe w h)) (7) 2 ow_7 rfl (by decide) (List.mem_cons_of_mem _ (tt1 95 rfl rfl)) rfl hdg kk
theorem gf_Se_bestNumbers (F : CallFix p m c cc nL s args (cw :: tt) RSe) (hK : va_K D vwCl (ot cI cL) s) (hP : va_P D vwCl (ow cI cL ad σ) H) (hdg : decode cc pc = .ok (.getfield 15, 3)) (kk : W p l e R s m args below meth c H locs cells slots Q (F0 m (pc + 3) ls (.ref (ad 9) :: rest))) : W p l e R s m args below meth c H locs cells slots Q (F0 m pc ls (.ref (ad 7) :: rest)) :=
  ok_get (C := RSe) (T := TSe) (N := 10) F hK hP (fun w h => List.mem_cons_of_mem _ (wuSe w h)) (7) 3 ow_7 rfl (by decide) (List.mem_cons_of_mem _ (tt1 96 rfl rfl)) rfl hdg kk
theorem gf_Se_worths (F : CallFix p m c cc nL s args (cw :: tt) RSe) (hK : va_K D vwCl (ot cI cL) s) (hP : va_P D vwCl (ow cI cL ad σ) H) (hdg : decode cc pc = .ok (.getfield 18, 3)) (kk : W p l e R s m args below meth c H locs cells slots Q (F0 m (pc + 3) ls (.ref (ad 10) :: rest))) : W p l e R s m args below meth c H locs cells slots Q (F0 m pc ls (.ref (ad 7) :: rest)) :=
  ok_get (C := RSe) (T := TSe) (N := 10) F hK hP (fun w h => List.mem_cons_of_mem _ (wuSe w h)) (7) 4 ow_7 rfl (by decide) (List.mem_cons_of_mem _ (tt1 97 rfl rfl)) rfl hdg kk
theorem gf_Se_hopes (F : CallFix p m c cc nL s args (cw :: tt) RSe) (hK : va_K D vwCl (ot cI cL) s) (hP : va_P D vwCl (ow cI cL ad σ) H) (hdg : decode cc pc = .ok (.getfield 21, 3)) (kk : W p l e R s m args below meth c H locs cells slots Q (F0 m (pc + 3) ls (.ref (ad 11) :: rest))) : W p l e R s m args below meth c H locs cells slots Q (F0 m pc ls (.ref (ad 7) :: rest)) :=
  ok_get (C := RSe) (T := TSe) (N := 10) F hK hP (fun w h => List.mem_cons_of_mem _ (wuSe w h)) (7) 5 ow_7 rfl (by decide) (List.mem_cons_of_mem _ (tt1 98 rfl rfl)) rfl hdg kk
theorem gf_Se_at (F : CallFix p m c cc nL s args (cw :: tt) RSe) (hK : va_K D vwCl (ot cI cL) s) (hP : va_P D vwCl (ow cI cL ad σ) H) (hdg : decode cc pc = .ok (.getfield 24, 3)) (kk : W p l e R s m args below meth c H locs cells slots Q (F0 m (pc + 3) ls (.int (σ 15 0 0) :: rest))) : W p l e R s m args below meth c H locs cells slots Q (F0 m pc ls (.ref (ad 7) :: rest)) :=
  ok_get (C := RSe) (T := TSe) (N := 10) F hK hP (fun w h => List.mem_cons_of_mem _ (wuSe w h)) (7) 6 ow_7 rfl (by decide) (List.mem_cons_of_mem _ (tt1 99 rfl rfl)) rfl hdg kk
theorem pf_Se_at {v : Int32} (F : CallFix p m c cc nL s args (cw :: tt) RSe) (hK : va_K D vwCl (ot cI cL) s) (hP : va_P D vwCl (ow cI cL ad σ) H) (hD : va_D A (ow cI cL ad σ)) (hS : va_S A H0 H locs) (hdg : decode cc pc = .ok (.putfield 24, 3)) (kk : ∀ (H1 : Heap) (locs1 : List Loc), va_P D vwCl (ow cI cL ad (u3 σ 15 0 0 v)) H1 → va_D A (ow cI cL ad (u3 σ 15 0 0 v)) → va_S A H0 H1 locs1 → W p l e R s m args below meth c H1 locs1 cells slots Q (F0 m (pc + 3) ls rest)) : W p l e R s m args below meth c H locs cells slots Q (F0 m pc ls (.int v :: .ref (ad 7) :: rest)) :=
  ok_put (C := RSe) (T := TSe) (N := 10) (ty := .int) F hK hP hD hS tySe tkSe nmSe (fun w h => List.mem_cons_of_mem _ (wuSe w h)) (7) 6 ow_7 rfl (by decide) (List.mem_cons_of_mem _ (tt1 99 rfl rfl)) rfl (by decide +kernel) rfl rfl (Nat.le_of_ble_eq_true rfl) (ow_set (f := upd (σ 15 0) 0 v) rfl (by simp [oc, ob_b, uA, upd])) hdg kk
theorem gf_Se_steps (F : CallFix p m c cc nL s args (cw :: tt) RSe) (hK : va_K D vwCl (ot cI cL) s) (hP : va_P D vwCl (ow cI cL ad σ) H) (hdg : decode cc pc = .ok (.getfield 28, 3)) (kk : W p l e R s m args below meth c H locs cells slots Q (F0 m (pc + 3) ls (.int (σ 16 0 0) :: rest))) : W p l e R s m args below meth c H locs cells slots Q (F0 m pc ls (.ref (ad 7) :: rest)) :=
  ok_get (C := RSe) (T := TSe) (N := 10) F hK hP (fun w h => List.mem_cons_of_mem _ (wuSe w h)) (7) 7 ow_7 rfl (by decide) (List.mem_cons_of_mem _ (tt1 100 rfl rfl)) rfl hdg kk
theorem pf_Se_steps {v : Int32} (F : CallFix p m c cc nL s args (cw :: tt) RSe) (hK : va_K D vwCl (ot cI cL) s) (hP : va_P D vwCl (ow cI cL ad σ) H) (hD : va_D A (ow cI cL ad σ)) (hS : va_S A H0 H locs) (hdg : decode cc pc = .ok (.putfield 28, 3)) (kk : ∀ (H1 : Heap) (locs1 : List Loc), va_P D vwCl (ow cI cL ad (u3 σ 16 0 0 v)) H1 → va_D A (ow cI cL ad (u3 σ 16 0 0 v)) → va_S A H0 H1 locs1 → W p l e R s m args below meth c H1 locs1 cells slots Q (F0 m (pc + 3) ls rest)) : W p l e R s m args below meth c H locs cells slots Q (F0 m pc ls (.int v :: .ref (ad 7) :: rest)) :=
  ok_put (C := RSe) (T := TSe) (N := 10) (ty := .int) F hK hP hD hS tySe tkSe nmSe (fun w h => List.mem_cons_of_mem _ (wuSe w h)) (7) 7 ow_7 rfl (by decide) (List.mem_cons_of_mem _ (tt1 100 rfl rfl)) rfl (by decide +kernel) rfl rfl (Nat.le_of_ble_eq_true rfl) (ow_set (f := upd (σ 16 0) 0 v) rfl (by simp [oc, ob_b, uA, upd])) hdg kk
theorem gf_Se_found (F : CallFix p m c cc nL s args (cw :: tt) RSe) (hK : va_K D vwCl (ot cI cL) s) (hP : va_P D vwCl (ow cI cL ad σ) H) (hdg : decode cc pc = .ok (.getfield 31, 3)) (kk : W p l e R s m args below meth c H locs cells slots Q (F0 m (pc + 3) ls (.int (σ 17 0 0) :: rest))) : W p l e R s m args below meth c H locs cells slots Q (F0 m pc ls (.ref (ad 7) :: rest)) :=
  ok_get (C := RSe) (T := TSe) (N := 10) F hK hP (fun w h => List.mem_cons_of_mem _ (wuSe w h)) (7) 8 ow_7 rfl (by decide) (List.mem_cons_of_mem _ (tt1 101 rfl rfl)) rfl hdg kk
theorem pf_Se_found {v : Int32} (F : CallFix p m c cc nL s args (cw :: tt) RSe) (hK : va_K D vwCl (ot cI cL) s) (hP : va_P D vwCl (ow cI cL ad σ) H) (hD : va_D A (ow cI cL ad σ)) (hS : va_S A H0 H locs) (hz : narrow .boolean (.int v) = .int v) (hz2 : fits .boolean (.int v) = true) (hdg : decode cc pc = .ok (.putfield 31, 3)) (kk : ∀ (H1 : Heap) (locs1 : List Loc), va_P D vwCl (ow cI cL ad (u3 σ 17 0 0 v)) H1 → va_D A (ow cI cL ad (u3 σ 17 0 0 v)) → va_S A H0 H1 locs1 → W p l e R s m args below meth c H1 locs1 cells slots Q (F0 m (pc + 3) ls rest)) : W p l e R s m args below meth c H locs cells slots Q (F0 m pc ls (.int v :: .ref (ad 7) :: rest)) :=
  ok_put (C := RSe) (T := TSe) (N := 10) (ty := .boolean) F hK hP hD hS tySe tkSe nmSe (fun w h => List.mem_cons_of_mem _ (wuSe w h)) (7) 8 ow_7 rfl (by decide) (List.mem_cons_of_mem _ (tt1 101 rfl rfl)) rfl (by decide +kernel) hz hz2 (Nat.le_of_ble_eq_true rfl) (ow_set (f := upd (σ 17 0) 0 v) rfl (by simp [oc, ob_b, uA, upd])) hdg kk
theorem gf_Se_bestWorth (F : CallFix p m c cc nL s args (cw :: tt) RSe) (hK : va_K D vwCl (ot cI cL) s) (hP : va_P D vwCl (ow cI cL ad σ) H) (hdg : decode cc pc = .ok (.getfield 35, 3)) (kk : W p l e R s m args below meth c H locs cells slots Q (F0 m (pc + 3) ls (.int (σ 18 0 0) :: rest))) : W p l e R s m args below meth c H locs cells slots Q (F0 m pc ls (.ref (ad 7) :: rest)) :=
  ok_get (C := RSe) (T := TSe) (N := 10) F hK hP (fun w h => List.mem_cons_of_mem _ (wuSe w h)) (7) 9 ow_7 rfl (by decide) (List.mem_cons_of_mem _ (tt1 102 rfl rfl)) rfl hdg kk
theorem pf_Se_bestWorth {v : Int32} (F : CallFix p m c cc nL s args (cw :: tt) RSe) (hK : va_K D vwCl (ot cI cL) s) (hP : va_P D vwCl (ow cI cL ad σ) H) (hD : va_D A (ow cI cL ad σ)) (hS : va_S A H0 H locs) (hdg : decode cc pc = .ok (.putfield 35, 3)) (kk : ∀ (H1 : Heap) (locs1 : List Loc), va_P D vwCl (ow cI cL ad (u3 σ 18 0 0 v)) H1 → va_D A (ow cI cL ad (u3 σ 18 0 0 v)) → va_S A H0 H1 locs1 → W p l e R s m args below meth c H1 locs1 cells slots Q (F0 m (pc + 3) ls rest)) : W p l e R s m args below meth c H locs cells slots Q (F0 m pc ls (.int v :: .ref (ad 7) :: rest)) :=
  ok_put (C := RSe) (T := TSe) (N := 10) (ty := .int) F hK hP hD hS tySe tkSe nmSe (fun w h => List.mem_cons_of_mem _ (wuSe w h)) (7) 9 ow_7 rfl (by decide) (List.mem_cons_of_mem _ (tt1 102 rfl rfl)) rfl (by decide +kernel) rfl rfl (Nat.le_of_ble_eq_true rfl) (ow_set (f := upd (σ 18 0) 0 v) rfl (by simp [oc, ob_b, uA, upd])) hdg kk
theorem gf_Fo_behind (F : CallFix p m c cc nL s args (cw :: tt) RFo) (hK : va_K D vwCl (ot cI cL) s) (hP : va_P D vwCl (ow cI cL ad σ) H) (hdg : decode cc pc = .ok (.getfield 9, 3)) (kk : W p l e R s m args below meth c H locs cells slots Q (F0 m (pc + 3) ls (.ref (ad 13) :: rest))) : W p l e R s m args below meth c H locs cells slots Q (F0 m pc ls (.ref (ad 12) :: rest)) :=
  ok_get (C := RFo) (T := TFo) (N := 2) F hK hP (fun w h => List.mem_cons_of_mem _ (wuFo w h)) (12) 0 ow_12 rfl (by decide) (List.mem_cons_of_mem _ (tt1 130 rfl rfl)) rfl hdg kk
theorem gf_Fo_count (F : CallFix p m c cc nL s args (cw :: tt) RFo) (hK : va_K D vwCl (ot cI cL) s) (hP : va_P D vwCl (ow cI cL ad σ) H) (hdg : decode cc pc = .ok (.getfield 15, 3)) (kk : W p l e R s m args below meth c H locs cells slots Q (F0 m (pc + 3) ls (.int (σ 20 0 0) :: rest))) : W p l e R s m args below meth c H locs cells slots Q (F0 m pc ls (.ref (ad 12) :: rest)) :=
  ok_get (C := RFo) (T := TFo) (N := 2) F hK hP (fun w h => List.mem_cons_of_mem _ (wuFo w h)) (12) 1 ow_12 rfl (by decide) (List.mem_cons_of_mem _ (tt1 131 rfl rfl)) rfl hdg kk
theorem pf_Fo_count {v : Int32} (F : CallFix p m c cc nL s args (cw :: tt) RFo) (hK : va_K D vwCl (ot cI cL) s) (hP : va_P D vwCl (ow cI cL ad σ) H) (hD : va_D A (ow cI cL ad σ)) (hS : va_S A H0 H locs) (hdg : decode cc pc = .ok (.putfield 15, 3)) (kk : ∀ (H1 : Heap) (locs1 : List Loc), va_P D vwCl (ow cI cL ad (u3 σ 20 0 0 v)) H1 → va_D A (ow cI cL ad (u3 σ 20 0 0 v)) → va_S A H0 H1 locs1 → W p l e R s m args below meth c H1 locs1 cells slots Q (F0 m (pc + 3) ls rest)) : W p l e R s m args below meth c H locs cells slots Q (F0 m pc ls (.int v :: .ref (ad 12) :: rest)) :=
  ok_put (C := RFo) (T := TFo) (N := 2) (ty := .int) F hK hP hD hS tyFo tkFo nmFo (fun w h => List.mem_cons_of_mem _ (wuFo w h)) (12) 1 ow_12 rfl (by decide) (List.mem_cons_of_mem _ (tt1 131 rfl rfl)) rfl (by decide +kernel) rfl rfl (Nat.le_of_ble_eq_true rfl) (ow_set (f := upd (σ 20 0) 0 v) rfl (by simp [oc, ob_b, uA, upd])) hdg kk
theorem gf_Li_factors (F : CallFix p m c cc nL s args (cw :: tt) RLi) (hK : va_K D vwCl (ot cI cL) s) (hP : va_P D vwCl (ow cI cL ad σ) H) (hi : i < 8) (hdg : decode cc pc = .ok (.getfield 9, 3)) (kk : W p l e R s m args below meth c H locs cells slots Q (F0 m (pc + 3) ls (.ref (ad (4 * i + 15)) :: rest))) : W p l e R s m args below meth c H locs cells slots Q (F0 m pc ls (.ref (ad (4 * i + 14)) :: rest)) :=
  ok_get (C := RLi) (T := TLi) (N := 6) F hK hP (fun w h => List.mem_cons_of_mem _ (wuLi w h)) (4 * i + 14) 0 (ow_l0 hi) rfl (by decide) (List.mem_cons_of_mem _ (tt1 55 rfl rfl)) rfl hdg kk
theorem gf_Li_kind (F : CallFix p m c cc nL s args (cw :: tt) RLi) (hK : va_K D vwCl (ot cI cL) s) (hP : va_P D vwCl (ow cI cL ad σ) H) (hi : i < 8) (hdg : decode cc pc = .ok (.getfield 15, 3)) (kk : W p l e R s m args below meth c H locs cells slots Q (F0 m (pc + 3) ls (.int (σ 4 i 0) :: rest))) : W p l e R s m args below meth c H locs cells slots Q (F0 m pc ls (.ref (ad (4 * i + 14)) :: rest)) :=
  ok_get (C := RLi) (T := TLi) (N := 6) F hK hP (fun w h => List.mem_cons_of_mem _ (wuLi w h)) (4 * i + 14) 1 (ow_l0 hi) rfl (by decide) (List.mem_cons_of_mem _ (tt1 56 rfl rfl)) rfl hdg kk
theorem pf_Li_kind {v : Int32} (F : CallFix p m c cc nL s args (cw :: tt) RLi) (hK : va_K D vwCl (ot cI cL) s) (hP : va_P D vwCl (ow cI cL ad σ) H) (hD : va_D A (ow cI cL ad σ)) (hS : va_S A H0 H locs) (hi : i < 8) (hdg : decode cc pc = .ok (.putfield 15, 3)) (kk : ∀ (H1 : Heap) (locs1 : List Loc), va_P D vwCl (ow cI cL ad (u3 σ 4 i 0 v)) H1 → va_D A (ow cI cL ad (u3 σ 4 i 0 v)) → va_S A H0 H1 locs1 → W p l e R s m args below meth c H1 locs1 cells slots Q (F0 m (pc + 3) ls rest)) : W p l e R s m args below meth c H locs cells slots Q (F0 m pc ls (.int v :: .ref (ad (4 * i + 14)) :: rest)) :=
  ok_put (C := RLi) (T := TLi) (N := 6) (ty := .int) F hK hP hD hS tyLi tkLi nmLi (fun w h => List.mem_cons_of_mem _ (wuLi w h)) (4 * i + 14) 1 (ow_l0 hi) rfl (by decide) (List.mem_cons_of_mem _ (tt1 56 rfl rfl)) rfl (by decide +kernel) rfl rfl (Nat.le_of_ble_eq_true rfl) (ow_set (f := upd (σ 4 i) 0 v) rfl (by rw [oc_l0]; simp [ob_l, uA, upd])) hdg kk
theorem gf_Li_right (F : CallFix p m c cc nL s args (cw :: tt) RLi) (hK : va_K D vwCl (ot cI cL) s) (hP : va_P D vwCl (ow cI cL ad σ) H) (hi : i < 8) (hdg : decode cc pc = .ok (.getfield 19, 3)) (kk : W p l e R s m args below meth c H locs cells slots Q (F0 m (pc + 3) ls (.int (σ 5 i 0) :: rest))) : W p l e R s m args below meth c H locs cells slots Q (F0 m pc ls (.ref (ad (4 * i + 14)) :: rest)) :=
  ok_get (C := RLi) (T := TLi) (N := 6) F hK hP (fun w h => List.mem_cons_of_mem _ (wuLi w h)) (4 * i + 14) 2 (ow_l0 hi) rfl (by decide) (List.mem_cons_of_mem _ (tt1 57 rfl rfl)) rfl hdg kk
theorem pf_Li_right {v : Int32} (F : CallFix p m c cc nL s args (cw :: tt) RLi) (hK : va_K D vwCl (ot cI cL) s) (hP : va_P D vwCl (ow cI cL ad σ) H) (hD : va_D A (ow cI cL ad σ)) (hS : va_S A H0 H locs) (hi : i < 8) (hdg : decode cc pc = .ok (.putfield 19, 3)) (kk : ∀ (H1 : Heap) (locs1 : List Loc), va_P D vwCl (ow cI cL ad (u3 σ 5 i 0 v)) H1 → va_D A (ow cI cL ad (u3 σ 5 i 0 v)) → va_S A H0 H1 locs1 → W p l e R s m args below meth c H1 locs1 cells slots Q (F0 m (pc + 3) ls rest)) : W p l e R s m args below meth c H locs cells slots Q (F0 m pc ls (.int v :: .ref (ad (4 * i + 14)) :: rest)) :=
  ok_put (C := RLi) (T := TLi) (N := 6) (ty := .int) F hK hP hD hS tyLi tkLi nmLi (fun w h => List.mem_cons_of_mem _ (wuLi w h)) (4 * i + 14) 2 (ow_l0 hi) rfl (by decide) (List.mem_cons_of_mem _ (tt1 57 rfl rfl)) rfl (by decide +kernel) rfl rfl (Nat.le_of_ble_eq_true rfl) (ow_set (f := upd (σ 5 i) 0 v) rfl (by rw [oc_l0]; simp [ob_l, uA, upd])) hdg kk
theorem gf_Li_weight (F : CallFix p m c cc nL s args (cw :: tt) RLi) (hK : va_K D vwCl (ot cI cL) s) (hP : va_P D vwCl (ow cI cL ad σ) H) (hi : i < 8) (hdg : decode cc pc = .ok (.getfield 22, 3)) (kk : W p l e R s m args below meth c H locs cells slots Q (F0 m (pc + 3) ls (.int (σ 6 i 0) :: rest))) : W p l e R s m args below meth c H locs cells slots Q (F0 m pc ls (.ref (ad (4 * i + 14)) :: rest)) :=
  ok_get (C := RLi) (T := TLi) (N := 6) F hK hP (fun w h => List.mem_cons_of_mem _ (wuLi w h)) (4 * i + 14) 3 (ow_l0 hi) rfl (by decide) (List.mem_cons_of_mem _ (tt1 58 rfl rfl)) rfl hdg kk
theorem pf_Li_weight {v : Int32} (F : CallFix p m c cc nL s args (cw :: tt) RLi) (hK : va_K D vwCl (ot cI cL) s) (hP : va_P D vwCl (ow cI cL ad σ) H) (hD : va_D A (ow cI cL ad σ)) (hS : va_S A H0 H locs) (hi : i < 8) (hdg : decode cc pc = .ok (.putfield 22, 3)) (kk : ∀ (H1 : Heap) (locs1 : List Loc), va_P D vwCl (ow cI cL ad (u3 σ 6 i 0 v)) H1 → va_D A (ow cI cL ad (u3 σ 6 i 0 v)) → va_S A H0 H1 locs1 → W p l e R s m args below meth c H1 locs1 cells slots Q (F0 m (pc + 3) ls rest)) : W p l e R s m args below meth c H locs cells slots Q (F0 m pc ls (.int v :: .ref (ad (4 * i + 14)) :: rest)) :=
  ok_put (C := RLi) (T := TLi) (N := 6) (ty := .int) F hK hP hD hS tyLi tkLi nmLi (fun w h => List.mem_cons_of_mem _ (wuLi w h)) (4 * i + 14) 3 (ow_l0 hi) rfl (by decide) (List.mem_cons_of_mem _ (tt1 58 rfl rfl)) rfl (by decide +kernel) rfl rfl (Nat.le_of_ble_eq_true rfl) (ow_set (f := upd (σ 6 i) 0 v) rfl (by rw [oc_l0]; simp [ob_l, uA, upd])) hdg kk
theorem gf_Li_sums (F : CallFix p m c cc nL s args (cw :: tt) RLi) (hK : va_K D vwCl (ot cI cL) s) (hP : va_P D vwCl (ow cI cL ad σ) H) (hi : i < 8) (hdg : decode cc pc = .ok (.getfield 25, 3)) (kk : W p l e R s m args below meth c H locs cells slots Q (F0 m (pc + 3) ls (.ref (ad (4 * i + 16)) :: rest))) : W p l e R s m args below meth c H locs cells slots Q (F0 m pc ls (.ref (ad (4 * i + 14)) :: rest)) :=
  ok_get (C := RLi) (T := TLi) (N := 6) F hK hP (fun w h => List.mem_cons_of_mem _ (wuLi w h)) (4 * i + 14) 4 (ow_l0 hi) rfl (by decide) (List.mem_cons_of_mem _ (tt1 59 rfl rfl)) rfl hdg kk
theorem gf_Li_helps (F : CallFix p m c cc nL s args (cw :: tt) RLi) (hK : va_K D vwCl (ot cI cL) s) (hP : va_P D vwCl (ow cI cL ad σ) H) (hi : i < 8) (hdg : decode cc pc = .ok (.getfield 28, 3)) (kk : W p l e R s m args below meth c H locs cells slots Q (F0 m (pc + 3) ls (.ref (ad (4 * i + 17)) :: rest))) : W p l e R s m args below meth c H locs cells slots Q (F0 m pc ls (.ref (ad (4 * i + 14)) :: rest)) :=
  ok_get (C := RLi) (T := TLi) (N := 6) F hK hP (fun w h => List.mem_cons_of_mem _ (wuLi w h)) (4 * i + 14) 5 (ow_l0 hi) rfl (by decide) (List.mem_cons_of_mem _ (tt1 60 rfl rfl)) rfl hdg kk
theorem ia_0 {x : Int32} {j : Nat} {own : String} (F : CallFix p m c cc nL s args (cw :: tt) own) (hK : va_K D vwCl (ot cI cL) s) (hP : va_P D vwCl (ow cI cL ad σ) H) (hx : x = nI j) (hj : j < 5) (hdg : decode cc pc = .ok (.iaload, 1)) (kk : W p l e R s m args below meth c H locs cells slots Q (F0 m (pc + 1) ls (.int (σ 0 0 j) :: rest))) : W p l e R s m args below meth c H locs cells slots Q (F0 m pc ls (.int x :: .ref (ad 2) :: rest)) :=
  ok_iald F hK hP (2) 0 ow_2 rfl hx hj (by decide) hdg kk
theorem sa_0 {x v : Int32} {j : Nat} {own : String} (F : CallFix p m c cc nL s args (cw :: tt) own) (hK : va_K D vwCl (ot cI cL) s) (hP : va_P D vwCl (ow cI cL ad σ) H) (hD : va_D A (ow cI cL ad σ)) (hS : va_S A H0 H locs) (hx : x = nI j) (hj : j < 5) (hdg : decode cc pc = .ok (.iastore, 1)) (kk : ∀ (H1 : Heap) (locs1 : List Loc), va_P D vwCl (ow cI cL ad (u3 σ 0 0 j v)) H1 → va_D A (ow cI cL ad (u3 σ 0 0 j v)) → va_S A H0 H1 locs1 → W p l e R s m args below meth c H1 locs1 cells slots Q (F0 m (pc + 1) ls rest)) : W p l e R s m args below meth c H locs cells slots Q (F0 m pc ls (.int v :: .int x :: .ref (ad 2) :: rest)) :=
  ok_iast F hK hP hD hS (2) 0 ow_2 rfl hx hj (by decide) (ow_set (f := upd (σ 0 0) j v) rfl (by simp [oc, ob_b, uA])) hdg kk
theorem ia_1 {x : Int32} {j : Nat} {own : String} (F : CallFix p m c cc nL s args (cw :: tt) own) (hK : va_K D vwCl (ot cI cL) s) (hP : va_P D vwCl (ow cI cL ad σ) H) (hx : x = nI j) (hj : j < 5) (hdg : decode cc pc = .ok (.iaload, 1)) (kk : W p l e R s m args below meth c H locs cells slots Q (F0 m (pc + 1) ls (.int (σ 1 0 j) :: rest))) : W p l e R s m args below meth c H locs cells slots Q (F0 m pc ls (.int x :: .ref (ad 3) :: rest)) :=
  ok_iald F hK hP (3) 0 ow_3 rfl hx hj (by decide) hdg kk
theorem sa_1 {x v : Int32} {j : Nat} {own : String} (F : CallFix p m c cc nL s args (cw :: tt) own) (hK : va_K D vwCl (ot cI cL) s) (hP : va_P D vwCl (ow cI cL ad σ) H) (hD : va_D A (ow cI cL ad σ)) (hS : va_S A H0 H locs) (hx : x = nI j) (hj : j < 5) (hdg : decode cc pc = .ok (.iastore, 1)) (kk : ∀ (H1 : Heap) (locs1 : List Loc), va_P D vwCl (ow cI cL ad (u3 σ 1 0 j v)) H1 → va_D A (ow cI cL ad (u3 σ 1 0 j v)) → va_S A H0 H1 locs1 → W p l e R s m args below meth c H1 locs1 cells slots Q (F0 m (pc + 1) ls rest)) : W p l e R s m args below meth c H locs cells slots Q (F0 m pc ls (.int v :: .int x :: .ref (ad 3) :: rest)) :=
  ok_iast F hK hP hD hS (3) 0 ow_3 rfl hx hj (by decide) (ow_set (f := upd (σ 1 0) j v) rfl (by simp [oc, ob_b, uA])) hdg kk
theorem ia_11 {x : Int32} {j : Nat} {own : String} (F : CallFix p m c cc nL s args (cw :: tt) own) (hK : va_K D vwCl (ot cI cL) s) (hP : va_P D vwCl (ow cI cL ad σ) H) (hx : x = nI j) (hj : j < 5) (hdg : decode cc pc = .ok (.iaload, 1)) (kk : W p l e R s m args below meth c H locs cells slots Q (F0 m (pc + 1) ls (.int (σ 11 0 j) :: rest))) : W p l e R s m args below meth c H locs cells slots Q (F0 m pc ls (.int x :: .ref (ad 8) :: rest)) :=
  ok_iald F hK hP (8) 0 ow_8 rfl hx hj (by decide) hdg kk
theorem sa_11 {x v : Int32} {j : Nat} {own : String} (F : CallFix p m c cc nL s args (cw :: tt) own) (hK : va_K D vwCl (ot cI cL) s) (hP : va_P D vwCl (ow cI cL ad σ) H) (hD : va_D A (ow cI cL ad σ)) (hS : va_S A H0 H locs) (hx : x = nI j) (hj : j < 5) (hdg : decode cc pc = .ok (.iastore, 1)) (kk : ∀ (H1 : Heap) (locs1 : List Loc), va_P D vwCl (ow cI cL ad (u3 σ 11 0 j v)) H1 → va_D A (ow cI cL ad (u3 σ 11 0 j v)) → va_S A H0 H1 locs1 → W p l e R s m args below meth c H1 locs1 cells slots Q (F0 m (pc + 1) ls rest)) : W p l e R s m args below meth c H locs cells slots Q (F0 m pc ls (.int v :: .int x :: .ref (ad 8) :: rest)) :=
  ok_iast F hK hP hD hS (8) 0 ow_8 rfl hx hj (by decide) (ow_set (f := upd (σ 11 0) j v) rfl (by simp [oc, ob_b, uA])) hdg kk
theorem ia_12 {x : Int32} {j : Nat} {own : String} (F : CallFix p m c cc nL s args (cw :: tt) own) (hK : va_K D vwCl (ot cI cL) s) (hP : va_P D vwCl (ow cI cL ad σ) H) (hx : x = nI j) (hj : j < 5) (hdg : decode cc pc = .ok (.iaload, 1)) (kk : W p l e R s m args below meth c H locs cells slots Q (F0 m (pc + 1) ls (.int (σ 12 0 j) :: rest))) : W p l e R s m args below meth c H locs cells slots Q (F0 m pc ls (.int x :: .ref (ad 9) :: rest)) :=
  ok_iald F hK hP (9) 0 ow_9 rfl hx hj (by decide) hdg kk
theorem sa_12 {x v : Int32} {j : Nat} {own : String} (F : CallFix p m c cc nL s args (cw :: tt) own) (hK : va_K D vwCl (ot cI cL) s) (hP : va_P D vwCl (ow cI cL ad σ) H) (hD : va_D A (ow cI cL ad σ)) (hS : va_S A H0 H locs) (hx : x = nI j) (hj : j < 5) (hdg : decode cc pc = .ok (.iastore, 1)) (kk : ∀ (H1 : Heap) (locs1 : List Loc), va_P D vwCl (ow cI cL ad (u3 σ 12 0 j v)) H1 → va_D A (ow cI cL ad (u3 σ 12 0 j v)) → va_S A H0 H1 locs1 → W p l e R s m args below meth c H1 locs1 cells slots Q (F0 m (pc + 1) ls rest)) : W p l e R s m args below meth c H locs cells slots Q (F0 m pc ls (.int v :: .int x :: .ref (ad 9) :: rest)) :=
  ok_iast F hK hP hD hS (9) 0 ow_9 rfl hx hj (by decide) (ow_set (f := upd (σ 12 0) j v) rfl (by simp [oc, ob_b, uA])) hdg kk
theorem ia_13 {x : Int32} {j : Nat} {own : String} (F : CallFix p m c cc nL s args (cw :: tt) own) (hK : va_K D vwCl (ot cI cL) s) (hP : va_P D vwCl (ow cI cL ad σ) H) (hx : x = nI j) (hj : j < 6) (hdg : decode cc pc = .ok (.iaload, 1)) (kk : W p l e R s m args below meth c H locs cells slots Q (F0 m (pc + 1) ls (.int (σ 13 0 j) :: rest))) : W p l e R s m args below meth c H locs cells slots Q (F0 m pc ls (.int x :: .ref (ad 10) :: rest)) :=
  ok_iald F hK hP (10) 0 ow_10 rfl hx hj (by decide) hdg kk
theorem sa_13 {x v : Int32} {j : Nat} {own : String} (F : CallFix p m c cc nL s args (cw :: tt) own) (hK : va_K D vwCl (ot cI cL) s) (hP : va_P D vwCl (ow cI cL ad σ) H) (hD : va_D A (ow cI cL ad σ)) (hS : va_S A H0 H locs) (hx : x = nI j) (hj : j < 6) (hdg : decode cc pc = .ok (.iastore, 1)) (kk : ∀ (H1 : Heap) (locs1 : List Loc), va_P D vwCl (ow cI cL ad (u3 σ 13 0 j v)) H1 → va_D A (ow cI cL ad (u3 σ 13 0 j v)) → va_S A H0 H1 locs1 → W p l e R s m args below meth c H1 locs1 cells slots Q (F0 m (pc + 1) ls rest)) : W p l e R s m args below meth c H locs cells slots Q (F0 m pc ls (.int v :: .int x :: .ref (ad 10) :: rest)) :=
  ok_iast F hK hP hD hS (10) 0 ow_10 rfl hx hj (by decide) (ow_set (f := upd (σ 13 0) j v) rfl (by simp [oc, ob_b, uA])) hdg kk
theorem ia_14 {x : Int32} {j : Nat} {own : String} (F : CallFix p m c cc nL s args (cw :: tt) own) (hK : va_K D vwCl (ot cI cL) s) (hP : va_P D vwCl (ow cI cL ad σ) H) (hx : x = nI j) (hj : j < 6) (hdg : decode cc pc = .ok (.iaload, 1)) (kk : W p l e R s m args below meth c H locs cells slots Q (F0 m (pc + 1) ls (.int (σ 14 0 j) :: rest))) : W p l e R s m args below meth c H locs cells slots Q (F0 m pc ls (.int x :: .ref (ad 11) :: rest)) :=
  ok_iald F hK hP (11) 0 ow_11 rfl hx hj (by decide) hdg kk
theorem sa_14 {x v : Int32} {j : Nat} {own : String} (F : CallFix p m c cc nL s args (cw :: tt) own) (hK : va_K D vwCl (ot cI cL) s) (hP : va_P D vwCl (ow cI cL ad σ) H) (hD : va_D A (ow cI cL ad σ)) (hS : va_S A H0 H locs) (hx : x = nI j) (hj : j < 6) (hdg : decode cc pc = .ok (.iastore, 1)) (kk : ∀ (H1 : Heap) (locs1 : List Loc), va_P D vwCl (ow cI cL ad (u3 σ 14 0 j v)) H1 → va_D A (ow cI cL ad (u3 σ 14 0 j v)) → va_S A H0 H1 locs1 → W p l e R s m args below meth c H1 locs1 cells slots Q (F0 m (pc + 1) ls rest)) : W p l e R s m args below meth c H locs cells slots Q (F0 m pc ls (.int v :: .int x :: .ref (ad 11) :: rest)) :=
  ok_iast F hK hP hD hS (11) 0 ow_11 rfl hx hj (by decide) (ow_set (f := upd (σ 14 0) j v) rfl (by simp [oc, ob_b, uA])) hdg kk
theorem ia_19 {x : Int32} {j : Nat} {own : String} (F : CallFix p m c cc nL s args (cw :: tt) own) (hK : va_K D vwCl (ot cI cL) s) (hP : va_P D vwCl (ow cI cL ad σ) H) (hx : x = nI j) (hj : j < 5) (hdg : decode cc pc = .ok (.iaload, 1)) (kk : W p l e R s m args below meth c H locs cells slots Q (F0 m (pc + 1) ls (.int (σ 19 0 j) :: rest))) : W p l e R s m args below meth c H locs cells slots Q (F0 m pc ls (.int x :: .ref (ad 13) :: rest)) :=
  ok_iald F hK hP (13) 0 ow_13 rfl hx hj (by decide) hdg kk
theorem sa_19 {x v : Int32} {j : Nat} {own : String} (F : CallFix p m c cc nL s args (cw :: tt) own) (hK : va_K D vwCl (ot cI cL) s) (hP : va_P D vwCl (ow cI cL ad σ) H) (hD : va_D A (ow cI cL ad σ)) (hS : va_S A H0 H locs) (hx : x = nI j) (hj : j < 5) (hdg : decode cc pc = .ok (.iastore, 1)) (kk : ∀ (H1 : Heap) (locs1 : List Loc), va_P D vwCl (ow cI cL ad (u3 σ 19 0 j v)) H1 → va_D A (ow cI cL ad (u3 σ 19 0 j v)) → va_S A H0 H1 locs1 → W p l e R s m args below meth c H1 locs1 cells slots Q (F0 m (pc + 1) ls rest)) : W p l e R s m args below meth c H locs cells slots Q (F0 m pc ls (.int v :: .int x :: .ref (ad 13) :: rest)) :=
  ok_iast F hK hP hD hS (13) 0 ow_13 rfl hx hj (by decide) (ow_set (f := upd (σ 19 0) j v) rfl (by simp [oc, ob_b, uA])) hdg kk
theorem ia_3 {x : Int32} {j : Nat} {own : String} (F : CallFix p m c cc nL s args (cw :: tt) own) (hK : va_K D vwCl (ot cI cL) s) (hP : va_P D vwCl (ow cI cL ad σ) H) (hi : i < 8) (hx : x = nI j) (hj : j < 5) (hdg : decode cc pc = .ok (.iaload, 1)) (kk : W p l e R s m args below meth c H locs cells slots Q (F0 m (pc + 1) ls (.int (σ 3 i j) :: rest))) : W p l e R s m args below meth c H locs cells slots Q (F0 m pc ls (.int x :: .ref (ad (4 * i + 15)) :: rest)) :=
  ok_iald F hK hP (4 * i + 15) 0 (ow_l1 hi) rfl hx hj (by decide) hdg kk
theorem sa_3 {x v : Int32} {j : Nat} {own : String} (F : CallFix p m c cc nL s args (cw :: tt) own) (hK : va_K D vwCl (ot cI cL) s) (hP : va_P D vwCl (ow cI cL ad σ) H) (hD : va_D A (ow cI cL ad σ)) (hS : va_S A H0 H locs) (hi : i < 8) (hx : x = nI j) (hj : j < 5) (hdg : decode cc pc = .ok (.iastore, 1)) (kk : ∀ (H1 : Heap) (locs1 : List Loc), va_P D vwCl (ow cI cL ad (u3 σ 3 i j v)) H1 → va_D A (ow cI cL ad (u3 σ 3 i j v)) → va_S A H0 H1 locs1 → W p l e R s m args below meth c H1 locs1 cells slots Q (F0 m (pc + 1) ls rest)) : W p l e R s m args below meth c H locs cells slots Q (F0 m pc ls (.int v :: .int x :: .ref (ad (4 * i + 15)) :: rest)) :=
  ok_iast F hK hP hD hS (4 * i + 15) 0 (ow_l1 hi) rfl hx hj (by decide) (ow_set (f := upd (σ 3 i) j v) rfl (by rw [oc_l1]; simp [ob_l, uA])) hdg kk
theorem ia_7 {x : Int32} {j : Nat} {own : String} (F : CallFix p m c cc nL s args (cw :: tt) own) (hK : va_K D vwCl (ot cI cL) s) (hP : va_P D vwCl (ow cI cL ad σ) H) (hi : i < 8) (hx : x = nI j) (hj : j < 6) (hdg : decode cc pc = .ok (.iaload, 1)) (kk : W p l e R s m args below meth c H locs cells slots Q (F0 m (pc + 1) ls (.int (σ 7 i j) :: rest))) : W p l e R s m args below meth c H locs cells slots Q (F0 m pc ls (.int x :: .ref (ad (4 * i + 16)) :: rest)) :=
  ok_iald F hK hP (4 * i + 16) 0 (ow_l2 hi) rfl hx hj (by decide) hdg kk
theorem sa_7 {x v : Int32} {j : Nat} {own : String} (F : CallFix p m c cc nL s args (cw :: tt) own) (hK : va_K D vwCl (ot cI cL) s) (hP : va_P D vwCl (ow cI cL ad σ) H) (hD : va_D A (ow cI cL ad σ)) (hS : va_S A H0 H locs) (hi : i < 8) (hx : x = nI j) (hj : j < 6) (hdg : decode cc pc = .ok (.iastore, 1)) (kk : ∀ (H1 : Heap) (locs1 : List Loc), va_P D vwCl (ow cI cL ad (u3 σ 7 i j v)) H1 → va_D A (ow cI cL ad (u3 σ 7 i j v)) → va_S A H0 H1 locs1 → W p l e R s m args below meth c H1 locs1 cells slots Q (F0 m (pc + 1) ls rest)) : W p l e R s m args below meth c H locs cells slots Q (F0 m pc ls (.int v :: .int x :: .ref (ad (4 * i + 16)) :: rest)) :=
  ok_iast F hK hP hD hS (4 * i + 16) 0 (ow_l2 hi) rfl hx hj (by decide) (ow_set (f := upd (σ 7 i) j v) rfl (by rw [oc_l2]; simp [ob_l, uA])) hdg kk
theorem ia_8 {x : Int32} {j : Nat} {own : String} (F : CallFix p m c cc nL s args (cw :: tt) own) (hK : va_K D vwCl (ot cI cL) s) (hP : va_P D vwCl (ow cI cL ad σ) H) (hi : i < 8) (hx : x = nI j) (hj : j < 6) (hdg : decode cc pc = .ok (.iaload, 1)) (kk : W p l e R s m args below meth c H locs cells slots Q (F0 m (pc + 1) ls (.int (σ 8 i j) :: rest))) : W p l e R s m args below meth c H locs cells slots Q (F0 m pc ls (.int x :: .ref (ad (4 * i + 17)) :: rest)) :=
  ok_iald F hK hP (4 * i + 17) 0 (ow_l3 hi) rfl hx hj (by decide) hdg kk
theorem sa_8 {x v : Int32} {j : Nat} {own : String} (F : CallFix p m c cc nL s args (cw :: tt) own) (hK : va_K D vwCl (ot cI cL) s) (hP : va_P D vwCl (ow cI cL ad σ) H) (hD : va_D A (ow cI cL ad σ)) (hS : va_S A H0 H locs) (hi : i < 8) (hx : x = nI j) (hj : j < 6) (hdg : decode cc pc = .ok (.iastore, 1)) (kk : ∀ (H1 : Heap) (locs1 : List Loc), va_P D vwCl (ow cI cL ad (u3 σ 8 i j v)) H1 → va_D A (ow cI cL ad (u3 σ 8 i j v)) → va_S A H0 H1 locs1 → W p l e R s m args below meth c H1 locs1 cells slots Q (F0 m (pc + 1) ls rest)) : W p l e R s m args below meth c H locs cells slots Q (F0 m pc ls (.int v :: .int x :: .ref (ad (4 * i + 17)) :: rest)) :=
  ok_iast F hK hP hD hS (4 * i + 17) 0 (ow_l3 hi) rfl hx hj (by decide) (ow_set (f := upd (σ 8 i) j v) rfl (by rw [oc_l3]; simp [ob_l, uA])) hdg kk
theorem ok_copy {own : String} {index n9 : Nat} {x : Int32} (F : CallFix p m c cc nL s args (cw :: tt) own) (hK : va_K D vwCl (ot cI cL) s) (hP : va_P D vwCl (ow cI cL ad σ) H) (hD : va_D A (ow cI cL ad σ)) (hS : va_S A H0 H locs) (hl9 : Cond.methodLink own index arraycopyName ∈ cw :: tt) (hsz : ls.size = nL) (hx : x = nI n9) (hn : n9 ≤ 5) (hframes : 1 ≤ R.frames) (hlocals : (rest.map fun v => v.category).sum + 18 ≤ R.locals) (hdg : decode cc pc = .ok (.invokestatic index, 3))
    (kk : ∀ (H1 : Heap) (locs1 : List Loc), va_P D vwCl (ow cI cL ad (uA σ 12 0 (va_cpy (σ 11 0) (σ 12 0) 0 0 n9))) H1 → va_D A (ow cI cL ad (uA σ 12 0 (va_cpy (σ 11 0) (σ 12 0) 0 0 n9))) → va_S A H0 H1 locs1 → W p l e R s m args below meth c H1 locs1 cells slots Q (F0 m (pc + 3) ls rest)) : W p l e R s m args below meth c H locs cells slots Q (F0 m pc ls (.int x :: .int 0 :: .ref (ad 9) :: .int 0 :: .ref (ad 8) :: rest)) := by
  subst hx
  have h0 : (0 : Int32).toNatClampNeg = 0 := by decide
  have hn1 : (nI n9).toNatClampNeg = n9 := nI_clamp (by omega)
  refine va_copyi (ty := .int) F.1 F.2.1 (F.2.2.1.trans hsz.symm) F.2.2.2.1 (F.2.2.2.2 _ hl9) (F.2.2.2.2 _ (List.mem_cons_of_mem _ (tt3 31 rfl rfl))) (F.2.2.2.2 _ (List.mem_cons_of_mem _ (tt3 30 rfl rfl))) (F.2.2.2.2 _ (List.mem_cons_of_mem _ (tt1 15 rfl rfl))) hK hP hD hS 8 9 0 0 ow_8 ow_9 rfl rfl rfl (by decide) (by decide) (nI_pos (by omega)) (by rw [h0, hn1]; omega) (by rw [h0, hn1]; omega) (fun i _ => rfl) hframes hlocals hdg ?_
  intro H1 locs1 h1 h2 h3
  rw [h0, hn1] at h1 h2
  rw [ow_set (k := 9) (c := 12) (i := 0) (f := va_cpy (σ 11 0) (σ 12 0) 0 0 n9) rfl (by simp [oc, ob_b, uA])] at h1 h2
  exact kk H1 locs1 h1 h2 h3
end OF
end
section
-- what a line says
def li_h (σ : oS) (i : Nat) (x : Int32) : Int32 := if σ 4 i 0 = 0 then (if σ 5 i 0 < x then 0 else 1) else (if x < σ 5 i 0 then 0 else 1)
def li_w (σ : oS) (i : Nat) (x : Int32) : Int32 := if σ 4 i 0 = 0 then (if x < 0 then 0 else if 1000000 < x then 0 else 1) else (if 0 < x then 0 else if x < -1000000 then 0 else 1)
def li_k (σ : oS) (i k : Nat) : Int32 := if σ 4 i 0 = 0 then (if 0 < σ 3 i k * σ 1 0 k then 0 else σ 3 i k * σ 1 0 k) else (if σ 3 i k * σ 1 0 k < 0 then 0 else σ 3 i k * σ 1 0 k)
def li_s (σ : oS) (i : Nat) : Nat → Int32
  | 0 => 0
  | k + 1 => li_s σ i k + li_k σ i k
/-- the kindest sum of the last d of n columns -/
def li_q (σ : oS) (i n : Nat) : Nat → Int32
  | 0 => 0
  | d + 1 => li_q σ i n d + li_k σ i (n - (d + 1))
theorem li_h_b {σ : oS} {i : Nat} {x : Int32} : narrow .boolean (.int (li_h σ i x)) = .int (li_h σ i x) := by
  unfold li_h
  split <;> split <;> rfl
/-- helps of the columns from r on -/
def li_b (σ : oS) (i n r : Nat) : oS := uA σ 8 i (fun j => if r ≤ j ∧ j ≤ n then li_q σ i n (n - j) else σ 8 i j)
theorem li_k_b {σ : oS} {i n r k : Nat} : li_k (li_b σ i n r) i k = li_k σ i k := by
  unfold li_k li_b
  rw [uA_n (by omega), uA_n (by omega), uA_n (by omega)]
theorem li_b_0 {σ : oS} {i n : Nat} : u3 σ 8 i n 0 = li_b σ i n n := by
  unfold u3 li_b
  congr 1
  funext j
  unfold upd
  by_cases h : j = n
  · subst h
    rw [if_pos rfl, if_pos (by omega), Nat.sub_self]
    rfl
  · rw [if_neg h, if_neg (by omega)]
theorem li_b_step {σ : oS} {i n r : Nat} (h : r < n) : u3 (li_b σ i n (r + 1)) 8 i r (li_b σ i n (r + 1) 8 i (r + 1) + li_k (li_b σ i n (r + 1)) i r) = li_b σ i n r := by
  rw [li_k_b]
  unfold u3
  have e1 : ∀ f g : Nat → Int32, uA (uA σ 8 i f) 8 i g = uA σ 8 i g := by
    intro f g
    funext c9 i9
    unfold uA
    split <;> rfl
  conv => lhs; unfold li_b
  rw [e1]
  conv => rhs; unfold li_b
  congr 1
  funext j
  unfold upd
  rw [uA_s]
  by_cases hj : j = r
  · subst hj
    rw [if_pos rfl, if_pos (by omega), if_pos (by omega), show n - j = (n - (j + 1)) + 1 by omega]
    show _ = li_q σ i n (n - (j + 1)) + li_k σ i (n - (n - (j + 1) + 1))
    rw [show n - (n - (j + 1) + 1) = j by omega]
  · rw [if_neg hj]
    by_cases h2 : r + 1 ≤ j ∧ j ≤ n
    · rw [if_pos h2, if_pos (by omega)]
    · rw [if_neg h2, if_neg (by omega)]
theorem nI_pm {n : Nat} (h : 0 < n) : nI n - 1 = nI (n - 1) := by
  obtain ⟨k, rfl⟩ : ∃ k, n = k + 1 := ⟨n - 1, by omega⟩
  exact nI_pred k
section
variable {l : Launch} {D : va_G} {cI cL : ClassId} {ad : Nat → Nat}
variable {p : Program} {e : Env} {R : Room} {s : State} {m : MethodId} {args : Array Value} {below : List Frame} {meth : Method} {c : Code} {H : Heap} {locs : List Loc} {cells slots : Nat} {Q : State → Prop} {cc : ByteArray} {pc nL index : Nat} {ls : Array Slot} {rest : List Value} {A : Nat → Prop} {H0 : Heap} {cw : Cond} {own : String}
set_option maxHeartbeats 4000000 in
set_option maxRecDepth 100000 in
theorem c_Co_count (σ : oS) : ok_MR l y_Co_count (Cond.code y_Co_count b_Co_count 1 (some .int) :: tt) { frames := 0, cells := 0, slots := 0, locals := 0 } D vwCl (ot cI cL) (ow cI cL ad σ) [.ref (ad 1)] (some (.int (σ 2 0 0))) := by
  refine ok_startR (cc := b_Co_count) (own := RCo) (maxL := 1) (ret := (some .int)) (by decide +kernel) rfl rfl (Nat.le_of_ble_eq_true rfl) ?_
  intro p e s m below meth c F hr hlk hP hK ls hl
  have hl : lv_has ls 1 [(0, .ref (ad 1))] := hl
  have hx := F.1
  have hb := F.2.1
  refine lv_aload_n hx hb d_Co_count_0 rfl (lv_at hl 0 rfl) ?_
  refine gf_Co_count F hK hP d_Co_count_1 ?_
  exact ok_iretR F hr hlk (rfl) d_Co_count_4
theorem x_Co_count {σ : oS} (F : CallFix p m c cc nL s args (cw :: tt) own) (hG : Cond.methodLink own index y_Co_count ∈ tt) (hR : 0 + 1 ≤ R.frames ∧ 8 + (1 + 11) + 0 ≤ R.locals) (hK : va_K D vwCl (ot cI cL) s) (hP : va_P D vwCl (ow cI cL ad σ) H) (hsz : ls.size = nL) (hW : (rest.map fun v => v.category).sum ≤ 8) (hcs : cells ≤ R.cells ∧ slots ≤ R.slots) (hdg : decode cc pc = .ok (.invokevirtual index, 3)) (kk : W p l e R s m args below meth c H locs cells slots Q (F0 m (pc + 3) ls (.int (σ 2 0 0) :: rest))) : W p l e R s m args below meth c H locs cells slots Q (F0 m pc ls (.ref (ad 1) :: rest)) :=
  ok_VR (As := []) F (c_Co_count σ) 0 (tt_V hG i_Co_count l_Co_count in9_Co k_Co_count) rfl ⟨rfl, rfl⟩ (by decide +kernel) hR hK hP (1) 0 rfl rfl ow_1 rfl hsz rfl hW hcs hdg kk
set_option maxHeartbeats 4000000 in
set_option maxRecDepth 100000 in
theorem c_Co_worth (σ : oS) {x : Int32} {j : Nat} (hj : x = nI j) (hj9 : j < 5) : ok_MR l y_Co_worth (Cond.code y_Co_worth b_Co_worth 2 (some .int) :: tt) { frames := 0, cells := 0, slots := 0, locals := 0 } D vwCl (ot cI cL) (ow cI cL ad σ) [.ref (ad 1), .int x] (some (.int (σ 0 0 j))) := by
  refine ok_startR (cc := b_Co_worth) (own := RCo) (maxL := 2) (ret := (some .int)) (by decide +kernel) rfl rfl (Nat.le_of_ble_eq_true rfl) ?_
  intro p e s m below meth c F hr hlk hP hK ls hl
  have hl : lv_has ls 2 [(0, .ref (ad 1)), (1, .int x)] := hl
  have hx := F.1
  have hb := F.2.1
  refine lv_aload_n hx hb d_Co_worth_0 rfl (lv_at hl 0 rfl) ?_
  refine gf_Co_worths F hK hP d_Co_worth_1 ?_
  refine lv_iload_n hx hb d_Co_worth_4 rfl (lv_at hl 1 rfl) ?_
  refine ia_0 (j := j) F hK hP hj (by omega) d_Co_worth_5 ?_
  exact ok_iretR F hr hlk (rfl) d_Co_worth_6
theorem x_Co_worth {σ : oS} {x : Int32} {j : Nat} (hj : x = nI j) (hj9 : j < 5) (F : CallFix p m c cc nL s args (cw :: tt) own) (hG : Cond.methodLink own index y_Co_worth ∈ tt) (hR : 0 + 1 ≤ R.frames ∧ 8 + (2 + 11) + 0 ≤ R.locals) (hK : va_K D vwCl (ot cI cL) s) (hP : va_P D vwCl (ow cI cL ad σ) H) (hsz : ls.size = nL) (hW : (rest.map fun v => v.category).sum ≤ 8) (hcs : cells ≤ R.cells ∧ slots ≤ R.slots) (hdg : decode cc pc = .ok (.invokevirtual index, 3)) (kk : W p l e R s m args below meth c H locs cells slots Q (F0 m (pc + 3) ls (.int (σ 0 0 j) :: rest))) : W p l e R s m args below meth c H locs cells slots Q (F0 m pc ls (.int x :: .ref (ad 1) :: rest)) :=
  ok_VR (As := [.int x]) F (c_Co_worth σ hj hj9) 1 (tt_V hG i_Co_worth l_Co_worth in9_Co k_Co_worth) rfl ⟨rfl, rfl⟩ (by decide +kernel) hR hK hP (1) 0 rfl rfl ow_1 rfl hsz rfl hW hcs hdg kk
set_option maxHeartbeats 4000000 in
set_option maxRecDepth 100000 in
theorem c_Co_top (σ : oS) {x : Int32} {j : Nat} (hj : x = nI j) (hj9 : j < 5) : ok_MR l y_Co_top (Cond.code y_Co_top b_Co_top 2 (some .int) :: tt) { frames := 0, cells := 0, slots := 0, locals := 0 } D vwCl (ot cI cL) (ow cI cL ad σ) [.ref (ad 1), .int x] (some (.int (σ 1 0 j))) := by
  refine ok_startR (cc := b_Co_top) (own := RCo) (maxL := 2) (ret := (some .int)) (by decide +kernel) rfl rfl (Nat.le_of_ble_eq_true rfl) ?_
  intro p e s m below meth c F hr hlk hP hK ls hl
  have hl : lv_has ls 2 [(0, .ref (ad 1)), (1, .int x)] := hl
  have hx := F.1
  have hb := F.2.1
  refine lv_aload_n hx hb d_Co_top_0 rfl (lv_at hl 0 rfl) ?_
  refine gf_Co_tops F hK hP d_Co_top_1 ?_
  refine lv_iload_n hx hb d_Co_top_4 rfl (lv_at hl 1 rfl) ?_
  refine ia_1 (j := j) F hK hP hj (by omega) d_Co_top_5 ?_
  exact ok_iretR F hr hlk (rfl) d_Co_top_6
theorem x_Co_top {σ : oS} {x : Int32} {j : Nat} (hj : x = nI j) (hj9 : j < 5) (F : CallFix p m c cc nL s args (cw :: tt) own) (hG : Cond.methodLink own index y_Co_top ∈ tt) (hR : 0 + 1 ≤ R.frames ∧ 8 + (2 + 11) + 0 ≤ R.locals) (hK : va_K D vwCl (ot cI cL) s) (hP : va_P D vwCl (ow cI cL ad σ) H) (hsz : ls.size = nL) (hW : (rest.map fun v => v.category).sum ≤ 8) (hcs : cells ≤ R.cells ∧ slots ≤ R.slots) (hdg : decode cc pc = .ok (.invokevirtual index, 3)) (kk : W p l e R s m args below meth c H locs cells slots Q (F0 m (pc + 3) ls (.int (σ 1 0 j) :: rest))) : W p l e R s m args below meth c H locs cells slots Q (F0 m pc ls (.int x :: .ref (ad 1) :: rest)) :=
  ok_VR (As := [.int x]) F (c_Co_top σ hj hj9) 1 (tt_V hG i_Co_top l_Co_top in9_Co k_Co_top) rfl ⟨rfl, rfl⟩ (by decide +kernel) hR hK hP (1) 0 rfl rfl ow_1 rfl hsz rfl hW hcs hdg kk
set_option maxHeartbeats 4000000 in
set_option maxRecDepth 100000 in
theorem c_Li_rightSide (σ : oS) {i : Nat} (hi : i < 8) : ok_MR l y_Li_rightSide (Cond.code y_Li_rightSide b_Li_rightSide 1 (some .int) :: tt) { frames := 0, cells := 0, slots := 0, locals := 0 } D vwCl (ot cI cL) (ow cI cL ad σ) [.ref (ad (4 * i + 14))] (some (.int (σ 5 i 0))) := by
  refine ok_startR (cc := b_Li_rightSide) (own := RLi) (maxL := 1) (ret := (some .int)) (by decide +kernel) rfl rfl (Nat.le_of_ble_eq_true rfl) ?_
  intro p e s m below meth c F hr hlk hP hK ls hl
  have hl : lv_has ls 1 [(0, .ref (ad (4 * i + 14)))] := hl
  have hx := F.1
  have hb := F.2.1
  refine lv_aload_n hx hb d_Li_rightSide_0 rfl (lv_at hl 0 rfl) ?_
  refine gf_Li_right (i := i) F hK hP hi d_Li_rightSide_1 ?_
  exact ok_iretR F hr hlk (rfl) d_Li_rightSide_4
theorem x_Li_rightSide {σ : oS} {i : Nat} (hi : i < 8) (F : CallFix p m c cc nL s args (cw :: tt) own) (hG : Cond.methodLink own index y_Li_rightSide ∈ tt) (hR : 0 + 1 ≤ R.frames ∧ 8 + (1 + 11) + 0 ≤ R.locals) (hK : va_K D vwCl (ot cI cL) s) (hP : va_P D vwCl (ow cI cL ad σ) H) (hsz : ls.size = nL) (hW : (rest.map fun v => v.category).sum ≤ 8) (hcs : cells ≤ R.cells ∧ slots ≤ R.slots) (hdg : decode cc pc = .ok (.invokevirtual index, 3)) (kk : W p l e R s m args below meth c H locs cells slots Q (F0 m (pc + 3) ls (.int (σ 5 i 0) :: rest))) : W p l e R s m args below meth c H locs cells slots Q (F0 m pc ls (.ref (ad (4 * i + 14)) :: rest)) :=
  ok_VR (As := []) F (c_Li_rightSide σ hi) 0 (tt_V hG i_Li_rightSide l_Li_rightSide in9_Li k_Li_rightSide) rfl ⟨rfl, rfl⟩ (by decide +kernel) hR hK hP (4 * i + 14) 1 rfl rfl (ow_l0 hi) rfl hsz rfl hW hcs hdg kk
set_option maxHeartbeats 4000000 in
set_option maxRecDepth 100000 in
theorem c_Li_weight (σ : oS) {i : Nat} (hi : i < 8) : ok_MR l y_Li_weight (Cond.code y_Li_weight b_Li_weight 1 (some .int) :: tt) { frames := 0, cells := 0, slots := 0, locals := 0 } D vwCl (ot cI cL) (ow cI cL ad σ) [.ref (ad (4 * i + 14))] (some (.int (σ 6 i 0))) := by
  refine ok_startR (cc := b_Li_weight) (own := RLi) (maxL := 1) (ret := (some .int)) (by decide +kernel) rfl rfl (Nat.le_of_ble_eq_true rfl) ?_
  intro p e s m below meth c F hr hlk hP hK ls hl
  have hl : lv_has ls 1 [(0, .ref (ad (4 * i + 14)))] := hl
  have hx := F.1
  have hb := F.2.1
  refine lv_aload_n hx hb d_Li_weight_0 rfl (lv_at hl 0 rfl) ?_
  refine gf_Li_weight (i := i) F hK hP hi d_Li_weight_1 ?_
  exact ok_iretR F hr hlk (rfl) d_Li_weight_4
theorem x_Li_weight {σ : oS} {i : Nat} (hi : i < 8) (F : CallFix p m c cc nL s args (cw :: tt) own) (hG : Cond.methodLink own index y_Li_weight ∈ tt) (hR : 0 + 1 ≤ R.frames ∧ 8 + (1 + 11) + 0 ≤ R.locals) (hK : va_K D vwCl (ot cI cL) s) (hP : va_P D vwCl (ow cI cL ad σ) H) (hsz : ls.size = nL) (hW : (rest.map fun v => v.category).sum ≤ 8) (hcs : cells ≤ R.cells ∧ slots ≤ R.slots) (hdg : decode cc pc = .ok (.invokevirtual index, 3)) (kk : W p l e R s m args below meth c H locs cells slots Q (F0 m (pc + 3) ls (.int (σ 6 i 0) :: rest))) : W p l e R s m args below meth c H locs cells slots Q (F0 m pc ls (.ref (ad (4 * i + 14)) :: rest)) :=
  ok_VR (As := []) F (c_Li_weight σ hi) 0 (tt_V hG i_Li_weight l_Li_weight in9_Li k_Li_weight) rfl ⟨rfl, rfl⟩ (by decide +kernel) hR hK hP (4 * i + 14) 1 rfl rfl (ow_l0 hi) rfl hsz rfl hW hcs hdg kk
set_option maxHeartbeats 4000000 in
set_option maxRecDepth 100000 in
theorem c_Li_factorOf (σ : oS) {i : Nat} (hi : i < 8) {x : Int32} {j : Nat} (hj : x = nI j) (hj9 : j < 5) : ok_MR l y_Li_factorOf (Cond.code y_Li_factorOf b_Li_factorOf 2 (some .int) :: tt) { frames := 0, cells := 0, slots := 0, locals := 0 } D vwCl (ot cI cL) (ow cI cL ad σ) [.ref (ad (4 * i + 14)), .int x] (some (.int (σ 3 i j))) := by
  refine ok_startR (cc := b_Li_factorOf) (own := RLi) (maxL := 2) (ret := (some .int)) (by decide +kernel) rfl rfl (Nat.le_of_ble_eq_true rfl) ?_
  intro p e s m below meth c F hr hlk hP hK ls hl
  have hl : lv_has ls 2 [(0, .ref (ad (4 * i + 14))), (1, .int x)] := hl
  have hx := F.1
  have hb := F.2.1
  refine lv_aload_n hx hb d_Li_factorOf_0 rfl (lv_at hl 0 rfl) ?_
  refine gf_Li_factors (i := i) F hK hP hi d_Li_factorOf_1 ?_
  refine lv_iload_n hx hb d_Li_factorOf_4 rfl (lv_at hl 1 rfl) ?_
  refine ia_3 (i := i) (j := j) F hK hP hi hj (by omega) d_Li_factorOf_5 ?_
  exact ok_iretR F hr hlk (rfl) d_Li_factorOf_6
theorem x_Li_factorOf {σ : oS} {i : Nat} (hi : i < 8) {x : Int32} {j : Nat} (hj : x = nI j) (hj9 : j < 5) (F : CallFix p m c cc nL s args (cw :: tt) own) (hG : Cond.methodLink own index y_Li_factorOf ∈ tt) (hR : 0 + 1 ≤ R.frames ∧ 8 + (2 + 11) + 0 ≤ R.locals) (hK : va_K D vwCl (ot cI cL) s) (hP : va_P D vwCl (ow cI cL ad σ) H) (hsz : ls.size = nL) (hW : (rest.map fun v => v.category).sum ≤ 8) (hcs : cells ≤ R.cells ∧ slots ≤ R.slots) (hdg : decode cc pc = .ok (.invokevirtual index, 3)) (kk : W p l e R s m args below meth c H locs cells slots Q (F0 m (pc + 3) ls (.int (σ 3 i j) :: rest))) : W p l e R s m args below meth c H locs cells slots Q (F0 m pc ls (.int x :: .ref (ad (4 * i + 14)) :: rest)) :=
  ok_VR (As := [.int x]) F (c_Li_factorOf σ hi hj hj9) 1 (tt_V hG i_Li_factorOf l_Li_factorOf in9_Li k_Li_factorOf) rfl ⟨rfl, rfl⟩ (by decide +kernel) hR hK hP (4 * i + 14) 1 rfl rfl (ow_l0 hi) rfl hsz rfl hW hcs hdg kk
set_option maxHeartbeats 4000000 in
set_option maxRecDepth 100000 in
theorem c_Li_setKind (σ : oS) {i : Nat} (hi : i < 8) {x : Int32} : ok_MM l y_Li_setKind (Cond.code y_Li_setKind b_Li_setKind 2 none :: tt) { frames := 0, cells := 0, slots := 0, locals := 0 } D vwCl (ot cI cL) (ow cI cL ad σ) (ow cI cL ad (u3 σ 4 i 0 x)) [.ref (ad (4 * i + 14)), .int x] none := by
  refine ok_startM (cc := b_Li_setKind) (own := RLi) (maxL := 2) (ret := none) (by decide +kernel) rfl rfl (Nat.le_of_ble_eq_true rfl) ?_
  intro p e s m below meth c A F hr hlk hA hP hK hD hS ls hl
  have hl : lv_has ls 2 [(0, .ref (ad (4 * i + 14))), (1, .int x)] := hl
  have hx := F.1
  have hb := F.2.1
  refine lv_aload_n hx hb d_Li_setKind_0 rfl (lv_at hl 0 rfl) ?_
  refine lv_iload_n hx hb d_Li_setKind_1 rfl (lv_at hl 1 rfl) ?_
  refine pf_Li_kind (i := i) F hK hP hD hS hi d_Li_setKind_2 (fun H locs hP hD hS => ?_)
  exact ok_vretM F hr hlk hP hD hS d_Li_setKind_5
theorem x_Li_setKind {σ : oS} {i : Nat} (hi : i < 8) {x : Int32} (F : CallFix p m c cc nL s args (cw :: tt) own) (hG : Cond.methodLink own index y_Li_setKind ∈ tt) (hR : 0 + 1 ≤ R.frames ∧ 8 + (2 + 11) + 0 ≤ R.locals) (hK : va_K D vwCl (ot cI cL) s) (hP : va_P D vwCl (ow cI cL ad σ) H) (hD : va_D A (ow cI cL ad σ)) (hS : va_S A H0 H locs) (hA : ∀ q, H0.size ≤ q → A q) (hsz : ls.size = nL) (hW : (rest.map fun v => v.category).sum ≤ 8) (hcs : cells ≤ R.cells ∧ slots ≤ R.slots) (hdg : decode cc pc = .ok (.invokevirtual index, 3)) (kk : ∀ (H1 : Heap) (locs1 : List Loc), va_P D vwCl (ow cI cL ad (u3 σ 4 i 0 x)) H1 → va_D A (ow cI cL ad (u3 σ 4 i 0 x)) → va_S A H0 H1 locs1 → W p l e R s m args below meth c H1 locs1 cells slots Q (F0 m (pc + 3) ls (rest))) : W p l e R s m args below meth c H locs cells slots Q (F0 m pc ls (.int x :: .ref (ad (4 * i + 14)) :: rest)) :=
  ok_VM (As := [.int x]) F (c_Li_setKind σ hi) 1 (tt_V hG i_Li_setKind l_Li_setKind in9_Li k_Li_setKind) rfl ⟨rfl, rfl⟩ (by decide +kernel) hR hK hP hD hS hA (4 * i + 14) 1 rfl rfl (ow_l0 hi) rfl hsz rfl hW hcs hdg kk
set_option maxHeartbeats 4000000 in
set_option maxRecDepth 100000 in
theorem c_Li_setRight (σ : oS) {i : Nat} (hi : i < 8) {x : Int32} : ok_MM l y_Li_setRight (Cond.code y_Li_setRight b_Li_setRight 2 none :: tt) { frames := 0, cells := 0, slots := 0, locals := 0 } D vwCl (ot cI cL) (ow cI cL ad σ) (ow cI cL ad (u3 σ 5 i 0 x)) [.ref (ad (4 * i + 14)), .int x] none := by
  refine ok_startM (cc := b_Li_setRight) (own := RLi) (maxL := 2) (ret := none) (by decide +kernel) rfl rfl (Nat.le_of_ble_eq_true rfl) ?_
  intro p e s m below meth c A F hr hlk hA hP hK hD hS ls hl
  have hl : lv_has ls 2 [(0, .ref (ad (4 * i + 14))), (1, .int x)] := hl
  have hx := F.1
  have hb := F.2.1
  refine lv_aload_n hx hb d_Li_setRight_0 rfl (lv_at hl 0 rfl) ?_
  refine lv_iload_n hx hb d_Li_setRight_1 rfl (lv_at hl 1 rfl) ?_
  refine pf_Li_right (i := i) F hK hP hD hS hi d_Li_setRight_2 (fun H locs hP hD hS => ?_)
  exact ok_vretM F hr hlk hP hD hS d_Li_setRight_5
theorem x_Li_setRight {σ : oS} {i : Nat} (hi : i < 8) {x : Int32} (F : CallFix p m c cc nL s args (cw :: tt) own) (hG : Cond.methodLink own index y_Li_setRight ∈ tt) (hR : 0 + 1 ≤ R.frames ∧ 8 + (2 + 11) + 0 ≤ R.locals) (hK : va_K D vwCl (ot cI cL) s) (hP : va_P D vwCl (ow cI cL ad σ) H) (hD : va_D A (ow cI cL ad σ)) (hS : va_S A H0 H locs) (hA : ∀ q, H0.size ≤ q → A q) (hsz : ls.size = nL) (hW : (rest.map fun v => v.category).sum ≤ 8) (hcs : cells ≤ R.cells ∧ slots ≤ R.slots) (hdg : decode cc pc = .ok (.invokevirtual index, 3)) (kk : ∀ (H1 : Heap) (locs1 : List Loc), va_P D vwCl (ow cI cL ad (u3 σ 5 i 0 x)) H1 → va_D A (ow cI cL ad (u3 σ 5 i 0 x)) → va_S A H0 H1 locs1 → W p l e R s m args below meth c H1 locs1 cells slots Q (F0 m (pc + 3) ls (rest))) : W p l e R s m args below meth c H locs cells slots Q (F0 m pc ls (.int x :: .ref (ad (4 * i + 14)) :: rest)) :=
  ok_VM (As := [.int x]) F (c_Li_setRight σ hi) 1 (tt_V hG i_Li_setRight l_Li_setRight in9_Li k_Li_setRight) rfl ⟨rfl, rfl⟩ (by decide +kernel) hR hK hP hD hS hA (4 * i + 14) 1 rfl rfl (ow_l0 hi) rfl hsz rfl hW hcs hdg kk
set_option maxHeartbeats 4000000 in
set_option maxRecDepth 100000 in
theorem c_Li_setWeight (σ : oS) {i : Nat} (hi : i < 8) {x : Int32} : ok_MM l y_Li_setWeight (Cond.code y_Li_setWeight b_Li_setWeight 2 none :: tt) { frames := 0, cells := 0, slots := 0, locals := 0 } D vwCl (ot cI cL) (ow cI cL ad σ) (ow cI cL ad (u3 σ 6 i 0 x)) [.ref (ad (4 * i + 14)), .int x] none := by
  refine ok_startM (cc := b_Li_setWeight) (own := RLi) (maxL := 2) (ret := none) (by decide +kernel) rfl rfl (Nat.le_of_ble_eq_true rfl) ?_
  intro p e s m below meth c A F hr hlk hA hP hK hD hS ls hl
  have hl : lv_has ls 2 [(0, .ref (ad (4 * i + 14))), (1, .int x)] := hl
  have hx := F.1
  have hb := F.2.1
  refine lv_aload_n hx hb d_Li_setWeight_0 rfl (lv_at hl 0 rfl) ?_
  refine lv_iload_n hx hb d_Li_setWeight_1 rfl (lv_at hl 1 rfl) ?_
  refine pf_Li_weight (i := i) F hK hP hD hS hi d_Li_setWeight_2 (fun H locs hP hD hS => ?_)
  exact ok_vretM F hr hlk hP hD hS d_Li_setWeight_5
theorem x_Li_setWeight {σ : oS} {i : Nat} (hi : i < 8) {x : Int32} (F : CallFix p m c cc nL s args (cw :: tt) own) (hG : Cond.methodLink own index y_Li_setWeight ∈ tt) (hR : 0 + 1 ≤ R.frames ∧ 8 + (2 + 11) + 0 ≤ R.locals) (hK : va_K D vwCl (ot cI cL) s) (hP : va_P D vwCl (ow cI cL ad σ) H) (hD : va_D A (ow cI cL ad σ)) (hS : va_S A H0 H locs) (hA : ∀ q, H0.size ≤ q → A q) (hsz : ls.size = nL) (hW : (rest.map fun v => v.category).sum ≤ 8) (hcs : cells ≤ R.cells ∧ slots ≤ R.slots) (hdg : decode cc pc = .ok (.invokevirtual index, 3)) (kk : ∀ (H1 : Heap) (locs1 : List Loc), va_P D vwCl (ow cI cL ad (u3 σ 6 i 0 x)) H1 → va_D A (ow cI cL ad (u3 σ 6 i 0 x)) → va_S A H0 H1 locs1 → W p l e R s m args below meth c H1 locs1 cells slots Q (F0 m (pc + 3) ls (rest))) : W p l e R s m args below meth c H locs cells slots Q (F0 m pc ls (.int x :: .ref (ad (4 * i + 14)) :: rest)) :=
  ok_VM (As := [.int x]) F (c_Li_setWeight σ hi) 1 (tt_V hG i_Li_setWeight l_Li_setWeight in9_Li k_Li_setWeight) rfl ⟨rfl, rfl⟩ (by decide +kernel) hR hK hP hD hS hA (4 * i + 14) 1 rfl rfl (ow_l0 hi) rfl hsz rfl hW hcs hdg kk
set_option maxHeartbeats 4000000 in
set_option maxRecDepth 100000 in
theorem c_Li_setFactor (σ : oS) {i : Nat} (hi : i < 8) {x : Int32} {j : Nat} (hj : x = nI j) (hj9 : j < 5) {y : Int32} : ok_MM l y_Li_setFactor (Cond.code y_Li_setFactor b_Li_setFactor 3 none :: tt) { frames := 0, cells := 0, slots := 0, locals := 0 } D vwCl (ot cI cL) (ow cI cL ad σ) (ow cI cL ad (u3 σ 3 i j y)) [.ref (ad (4 * i + 14)), .int x, .int y] none := by
  refine ok_startM (cc := b_Li_setFactor) (own := RLi) (maxL := 3) (ret := none) (by decide +kernel) rfl rfl (Nat.le_of_ble_eq_true rfl) ?_
  intro p e s m below meth c A F hr hlk hA hP hK hD hS ls hl
  have hl : lv_has ls 3 [(0, .ref (ad (4 * i + 14))), (1, .int x), (2, .int y)] := hl
  have hx := F.1
  have hb := F.2.1
  refine lv_aload_n hx hb d_Li_setFactor_0 rfl (lv_at hl 0 rfl) ?_
  refine gf_Li_factors (i := i) F hK hP hi d_Li_setFactor_1 ?_
  refine lv_iload_n hx hb d_Li_setFactor_4 rfl (lv_at hl 1 rfl) ?_
  refine lv_iload_n hx hb d_Li_setFactor_5 rfl (lv_at hl 2 rfl) ?_
  refine sa_3 (i := i) (j := j) F hK hP hD hS hi hj (by omega) d_Li_setFactor_6 (fun H locs hP hD hS => ?_)
  exact ok_vretM F hr hlk hP hD hS d_Li_setFactor_7
theorem x_Li_setFactor {σ : oS} {i : Nat} (hi : i < 8) {x : Int32} {j : Nat} (hj : x = nI j) (hj9 : j < 5) {y : Int32} (F : CallFix p m c cc nL s args (cw :: tt) own) (hG : Cond.methodLink own index y_Li_setFactor ∈ tt) (hR : 0 + 1 ≤ R.frames ∧ 8 + (3 + 11) + 0 ≤ R.locals) (hK : va_K D vwCl (ot cI cL) s) (hP : va_P D vwCl (ow cI cL ad σ) H) (hD : va_D A (ow cI cL ad σ)) (hS : va_S A H0 H locs) (hA : ∀ q, H0.size ≤ q → A q) (hsz : ls.size = nL) (hW : (rest.map fun v => v.category).sum ≤ 8) (hcs : cells ≤ R.cells ∧ slots ≤ R.slots) (hdg : decode cc pc = .ok (.invokevirtual index, 3)) (kk : ∀ (H1 : Heap) (locs1 : List Loc), va_P D vwCl (ow cI cL ad (u3 σ 3 i j y)) H1 → va_D A (ow cI cL ad (u3 σ 3 i j y)) → va_S A H0 H1 locs1 → W p l e R s m args below meth c H1 locs1 cells slots Q (F0 m (pc + 3) ls (rest))) : W p l e R s m args below meth c H locs cells slots Q (F0 m pc ls (.int y :: .int x :: .ref (ad (4 * i + 14)) :: rest)) :=
  ok_VM (As := [.int x, .int y]) F (c_Li_setFactor σ hi hj hj9) 2 (tt_V hG i_Li_setFactor l_Li_setFactor in9_Li k_Li_setFactor) rfl ⟨rfl, rfl⟩ (by decide +kernel) hR hK hP hD hS hA (4 * i + 14) 1 rfl rfl (ow_l0 hi) rfl hsz rfl hW hcs hdg kk
set_option maxHeartbeats 4000000 in
set_option maxRecDepth 100000 in
theorem c_Li_allowsWeight (σ : oS) {i : Nat} (hi : i < 8) {x : Int32} : ok_MR l y_Li_allowsWeight (Cond.code y_Li_allowsWeight b_Li_allowsWeight 2 (some .boolean) :: tt) { frames := 0, cells := 0, slots := 0, locals := 0 } D vwCl (ot cI cL) (ow cI cL ad σ) [.ref (ad (4 * i + 14)), .int x] (some (.int (li_w σ i x))) := by
  refine ok_startR (cc := b_Li_allowsWeight) (own := RLi) (maxL := 2) (ret := (some .boolean)) (by decide +kernel) rfl rfl (Nat.le_of_ble_eq_true rfl) ?_
  intro p e s m below meth c F hr hlk hP hK ls hl
  have hl : lv_has ls 2 [(0, .ref (ad (4 * i + 14))), (1, .int x)] := hl
  have hx := F.1
  have hb := F.2.1
  refine lv_aload_n hx hb d_Li_allowsWeight_0 rfl (lv_at hl 0 rfl) ?_
  refine gf_Li_kind (i := i) F hK hP hi d_Li_allowsWeight_1 ?_
  refine lv_if_ne (tgt := 23) hx hb d_Li_allowsWeight_4 (by decide) (fun c1 => ?_) (fun c1 => ?_)
  · refine lv_iload_n hx hb d_Li_allowsWeight_23 rfl (lv_at hl 1 rfl) ?_
    refine lv_if_gt (tgt := 37) hx hb d_Li_allowsWeight_24 (by decide) (fun c2 => ?_) (fun c2 => ?_)
    · refine lv_iconst (v := 0) hx hb d_Li_allowsWeight_37 (by decide) ?_
      exact ok_zretR F hr hlk (rfl) (by simp [li_w, c1, c2]) d_Li_allowsWeight_38
    · refine lv_iload_n hx hb d_Li_allowsWeight_27 rfl (lv_at hl 1 rfl) ?_
      refine lv_ldc (v := -1000000) hx hb F.2.2.2.1 (F.2.2.2.2 (.constant RLi 32 (-1000000)) (List.mem_cons_of_mem _ (tt3 93 rfl rfl))) d_Li_allowsWeight_28 ?_
      refine lv_icmp_lt (tgt := 37) hx hb d_Li_allowsWeight_30 (by decide) (fun c3 => ?_) (fun c3 => ?_)
      · refine lv_iconst (v := 0) hx hb d_Li_allowsWeight_37 (by decide) ?_
        exact ok_zretR F hr hlk (rfl) (by simp [li_w, c1, c2, c3]) d_Li_allowsWeight_38
      · refine lv_iconst (v := 1) hx hb d_Li_allowsWeight_33 (by decide) ?_
        refine lv_goto (tgt := 38) hx hb d_Li_allowsWeight_34 (by decide) ?_
        exact ok_zretR F hr hlk (rfl) (by simp [li_w, c1, c2, c3]) d_Li_allowsWeight_38
  · refine lv_iload_n hx hb d_Li_allowsWeight_7 rfl (lv_at hl 1 rfl) ?_
    refine lv_if_lt (tgt := 21) hx hb d_Li_allowsWeight_8 (by decide) (fun c4 => ?_) (fun c4 => ?_)
    · refine lv_iconst (v := 0) hx hb d_Li_allowsWeight_21 (by decide) ?_
      exact ok_zretR F hr hlk (rfl) (by simp [li_w, c1, c4]) d_Li_allowsWeight_22
    · refine lv_iload_n hx hb d_Li_allowsWeight_11 rfl (lv_at hl 1 rfl) ?_
      refine lv_ldc (v := 1000000) hx hb F.2.2.2.1 (F.2.2.2.2 (.constant RLi 31 (1000000)) (List.mem_cons_of_mem _ (tt3 92 rfl rfl))) d_Li_allowsWeight_12 ?_
      refine lv_icmp_gt (tgt := 21) hx hb d_Li_allowsWeight_14 (by decide) (fun c5 => ?_) (fun c5 => ?_)
      · refine lv_iconst (v := 0) hx hb d_Li_allowsWeight_21 (by decide) ?_
        exact ok_zretR F hr hlk (rfl) (by simp [li_w, c1, c4, c5]) d_Li_allowsWeight_22
      · refine lv_iconst (v := 1) hx hb d_Li_allowsWeight_17 (by decide) ?_
        refine lv_goto (tgt := 22) hx hb d_Li_allowsWeight_18 (by decide) ?_
        exact ok_zretR F hr hlk (rfl) (by simp [li_w, c1, c4, c5]) d_Li_allowsWeight_22
theorem x_Li_allowsWeight {σ : oS} {i : Nat} (hi : i < 8) {x : Int32} (F : CallFix p m c cc nL s args (cw :: tt) own) (hG : Cond.methodLink own index y_Li_allowsWeight ∈ tt) (hR : 0 + 1 ≤ R.frames ∧ 8 + (2 + 11) + 0 ≤ R.locals) (hK : va_K D vwCl (ot cI cL) s) (hP : va_P D vwCl (ow cI cL ad σ) H) (hsz : ls.size = nL) (hW : (rest.map fun v => v.category).sum ≤ 8) (hcs : cells ≤ R.cells ∧ slots ≤ R.slots) (hdg : decode cc pc = .ok (.invokevirtual index, 3)) (kk : W p l e R s m args below meth c H locs cells slots Q (F0 m (pc + 3) ls (.int (li_w σ i x) :: rest))) : W p l e R s m args below meth c H locs cells slots Q (F0 m pc ls (.int x :: .ref (ad (4 * i + 14)) :: rest)) :=
  ok_VR (As := [.int x]) F (c_Li_allowsWeight σ hi) 1 (tt_V hG i_Li_allowsWeight l_Li_allowsWeight in9_Li k_Li_allowsWeight) rfl ⟨rfl, rfl⟩ (by decide +kernel) hR hK hP (4 * i + 14) 1 rfl rfl (ow_l0 hi) rfl hsz rfl hW hcs hdg kk
set_option maxHeartbeats 4000000 in
set_option maxRecDepth 100000 in
theorem c_Li_holds (σ : oS) {i : Nat} (hi : i < 8) {x : Int32} : ok_MR l y_Li_holds (Cond.code y_Li_holds b_Li_holds 2 (some .boolean) :: tt) { frames := 0, cells := 0, slots := 0, locals := 0 } D vwCl (ot cI cL) (ow cI cL ad σ) [.ref (ad (4 * i + 14)), .int x] (some (.int (li_h σ i x))) := by
  refine ok_startR (cc := b_Li_holds) (own := RLi) (maxL := 2) (ret := (some .boolean)) (by decide +kernel) rfl rfl (Nat.le_of_ble_eq_true rfl) ?_
  intro p e s m below meth c F hr hlk hP hK ls hl
  have hl : lv_has ls 2 [(0, .ref (ad (4 * i + 14))), (1, .int x)] := hl
  have hx := F.1
  have hb := F.2.1
  refine lv_aload_n hx hb d_Li_holds_0 rfl (lv_at hl 0 rfl) ?_
  refine gf_Li_kind (i := i) F hK hP hi d_Li_holds_1 ?_
  refine lv_if_ne (tgt := 23) hx hb d_Li_holds_4 (by decide) (fun c1 => ?_) (fun c1 => ?_)
  · refine lv_iload_n hx hb d_Li_holds_23 rfl (lv_at hl 1 rfl) ?_
    refine lv_aload_n hx hb d_Li_holds_24 rfl (lv_at hl 0 rfl) ?_
    refine gf_Li_right (i := i) F hK hP hi d_Li_holds_25 ?_
    refine lv_icmp_lt (tgt := 35) hx hb d_Li_holds_28 (by decide) (fun c2 => ?_) (fun c2 => ?_)
    · refine lv_iconst (v := 0) hx hb d_Li_holds_35 (by decide) ?_
      exact ok_zretR F hr hlk (rfl) (by simp [li_h, c1, c2]) d_Li_holds_36
    · refine lv_iconst (v := 1) hx hb d_Li_holds_31 (by decide) ?_
      refine lv_goto (tgt := 36) hx hb d_Li_holds_32 (by decide) ?_
      exact ok_zretR F hr hlk (rfl) (by simp [li_h, c1, c2]) d_Li_holds_36
  · refine lv_iload_n hx hb d_Li_holds_7 rfl (lv_at hl 1 rfl) ?_
    refine lv_aload_n hx hb d_Li_holds_8 rfl (lv_at hl 0 rfl) ?_
    refine gf_Li_right (i := i) F hK hP hi d_Li_holds_9 ?_
    refine lv_icmp_gt (tgt := 19) hx hb d_Li_holds_12 (by decide) (fun c3 => ?_) (fun c3 => ?_)
    · refine lv_iconst (v := 0) hx hb d_Li_holds_19 (by decide) ?_
      refine lv_goto (tgt := 36) hx hb d_Li_holds_20 (by decide) ?_
      exact ok_zretR F hr hlk (rfl) (by simp [li_h, c1, c3]) d_Li_holds_36
    · refine lv_iconst (v := 1) hx hb d_Li_holds_15 (by decide) ?_
      refine lv_goto (tgt := 36) hx hb d_Li_holds_16 (by decide) ?_
      exact ok_zretR F hr hlk (rfl) (by simp [li_h, c1, c3]) d_Li_holds_36
theorem x_Li_holds {σ : oS} {i : Nat} (hi : i < 8) {x : Int32} (F : CallFix p m c cc nL s args (cw :: tt) own) (hG : Cond.methodLink own index y_Li_holds ∈ tt) (hR : 0 + 1 ≤ R.frames ∧ 8 + (2 + 11) + 0 ≤ R.locals) (hK : va_K D vwCl (ot cI cL) s) (hP : va_P D vwCl (ow cI cL ad σ) H) (hsz : ls.size = nL) (hW : (rest.map fun v => v.category).sum ≤ 8) (hcs : cells ≤ R.cells ∧ slots ≤ R.slots) (hdg : decode cc pc = .ok (.invokevirtual index, 3)) (kk : W p l e R s m args below meth c H locs cells slots Q (F0 m (pc + 3) ls (.int (li_h σ i x) :: rest))) : W p l e R s m args below meth c H locs cells slots Q (F0 m pc ls (.int x :: .ref (ad (4 * i + 14)) :: rest)) :=
  ok_VR (As := [.int x]) F (c_Li_holds σ hi) 1 (tt_V hG i_Li_holds l_Li_holds in9_Li k_Li_holds) rfl ⟨rfl, rfl⟩ (by decide +kernel) hR hK hP (4 * i + 14) 1 rfl rfl (ow_l0 hi) rfl hsz rfl hW hcs hdg kk
set_option maxHeartbeats 4000000 in
set_option maxRecDepth 100000 in
theorem c_Li_kindest (σ : oS) {i : Nat} (hi : i < 8) {x : Int32} {j : Nat} (hj : x = nI j) (hj9 : j < 5) : ok_MR l y_Li_kindest (Cond.code y_Li_kindest b_Li_kindest 4 (some .int) :: tt) { frames := 1, cells := 0, slots := 0, locals := 21 } D vwCl (ot cI cL) (ow cI cL ad σ) [.ref (ad (4 * i + 14)), .ref (ad 1), .int x] (some (.int (li_k σ i j))) := by
  refine ok_startR (cc := b_Li_kindest) (own := RLi) (maxL := 4) (ret := (some .int)) (by decide +kernel) rfl rfl (Nat.le_of_ble_eq_true rfl) ?_
  intro p e s m below meth c F hr hlk hP hK ls hl
  have hl : lv_has ls 4 [(0, .ref (ad (4 * i + 14))), (1, .ref (ad 1)), (2, .int x)] := hl
  have hx := F.1
  have hb := F.2.1
  refine lv_aload_n hx hb d_Li_kindest_0 rfl (lv_at hl 0 rfl) ?_
  refine gf_Li_factors (i := i) F hK hP hi d_Li_kindest_1 ?_
  refine lv_iload_n hx hb d_Li_kindest_4 rfl (lv_at hl 2 rfl) ?_
  refine ia_3 (i := i) (j := j) F hK hP hi hj (by omega) d_Li_kindest_5 ?_
  refine lv_aload_n hx hb d_Li_kindest_6 rfl (lv_at hl 1 rfl) ?_
  refine lv_iload_n hx hb d_Li_kindest_7 rfl (lv_at hl 2 rfl) ?_
  refine x_Co_top (j := j) hj (by omega) F (tt1 213 rfl rfl) ⟨Nat.le_of_ble_eq_true rfl, Nat.le_of_ble_eq_true rfl⟩ hK hP hl.1 (Nat.le_of_ble_eq_true rfl) ⟨Nat.zero_le _, Nat.zero_le _⟩ d_Li_kindest_8 ?_
  refine lv_imul hx hb d_Li_kindest_11 ?_
  refine lv_istore_n (lv' := [(3, .int ((σ 3 i j) * (σ 1 0 j))), (0, .ref (ad (4 * i + 14))), (1, .ref (ad 1)), (2, .int x)]) hx hb d_Li_kindest_12 rfl hl (by decide) rfl (fun ls hl => ?_)
  refine lv_aload_n hx hb d_Li_kindest_13 rfl (lv_at hl 1 rfl) ?_
  refine gf_Li_kind (i := i) F hK hP hi d_Li_kindest_14 ?_
  refine lv_if_ne (tgt := 28) hx hb d_Li_kindest_17 (by decide) (fun c1 => ?_) (fun c1 => ?_)
  · refine lv_iload_n hx hb d_Li_kindest_28 rfl (lv_at hl 0 rfl) ?_
    refine lv_iconst (v := 0) hx hb d_Li_kindest_29 (by decide) ?_
    refine ok_mmax F (List.mem_cons_of_mem _ (tt1 217 rfl rfl)) hl.1 (Nat.le_of_ble_eq_true rfl) (Nat.le_of_ble_eq_true rfl) (Nat.zero_le _) (Nat.zero_le _) d_Li_kindest_30 ?_
    exact ok_iretR F hr hlk (by first | rw [li_k, if_pos c1] | rw [li_k, if_neg c1]) d_Li_kindest_33
  · refine lv_iload_n hx hb d_Li_kindest_20 rfl (lv_at hl 0 rfl) ?_
    refine lv_iconst (v := 0) hx hb d_Li_kindest_21 (by decide) ?_
    refine ok_mmin F (List.mem_cons_of_mem _ (tt1 214 rfl rfl)) hl.1 (Nat.le_of_ble_eq_true rfl) (Nat.le_of_ble_eq_true rfl) (Nat.zero_le _) (Nat.zero_le _) d_Li_kindest_22 ?_
    refine lv_goto (tgt := 33) hx hb d_Li_kindest_25 (by decide) ?_
    exact ok_iretR F hr hlk (by first | rw [li_k, if_pos c1] | rw [li_k, if_neg c1]) d_Li_kindest_33
theorem x_Li_kindest {σ : oS} {i : Nat} (hi : i < 8) {x : Int32} {j : Nat} (hj : x = nI j) (hj9 : j < 5) (F : CallFix p m c cc nL s args (cw :: tt) own) (hG : Cond.methodLink own index y_Li_kindest ∈ tt) (hR : 1 + 1 ≤ R.frames ∧ 8 + (4 + 11) + 21 ≤ R.locals) (hK : va_K D vwCl (ot cI cL) s) (hP : va_P D vwCl (ow cI cL ad σ) H) (hsz : ls.size = nL) (hW : (rest.map fun v => v.category).sum ≤ 8) (hcs : cells ≤ R.cells ∧ slots ≤ R.slots) (hdg : decode cc pc = .ok (.invokevirtual index, 3)) (kk : W p l e R s m args below meth c H locs cells slots Q (F0 m (pc + 3) ls (.int (li_k σ i j) :: rest))) : W p l e R s m args below meth c H locs cells slots Q (F0 m pc ls (.int x :: .ref (ad 1) :: .ref (ad (4 * i + 14)) :: rest)) :=
  ok_VR (As := [.ref (ad 1), .int x]) F (c_Li_kindest σ hi hj hj9) 2 (tt_V hG i_Li_kindest l_Li_kindest in9_Li k_Li_kindest) rfl ⟨rfl, rfl⟩ (by decide +kernel) hR hK hP (4 * i + 14) 1 rfl rfl (ow_l0 hi) rfl hsz rfl hW hcs hdg kk
set_option maxHeartbeats 4000000 in
set_option maxRecDepth 100000 in
theorem c_Li_canHold (σ : oS) {i : Nat} (hi : i < 8) {n : Nat} (hn : σ 2 0 0 = nI n) (hn9 : n ≤ 5) : ok_MR l y_Li_canHold (Cond.code y_Li_canHold b_Li_canHold 4 (some .boolean) :: tt) { frames := 2, cells := 0, slots := 0, locals := 44 } D vwCl (ot cI cL) (ow cI cL ad σ) [.ref (ad (4 * i + 14)), .ref (ad 1)] (some (.int (li_h σ i (li_s σ i n)))) := by
  refine ok_startR (cc := b_Li_canHold) (own := RLi) (maxL := 4) (ret := (some .boolean)) (by decide +kernel) rfl rfl (Nat.le_of_ble_eq_true rfl) ?_
  intro p e s m below meth c F hr hlk hP hK ls hl
  have hl : lv_has ls 4 [(0, .ref (ad (4 * i + 14))), (1, .ref (ad 1))] := hl
  have hx := F.1
  have hb := F.2.1
  have lp : ∀ (f k : Nat), k ≤ n → n - k < f → ∀ ls : Array Slot, lv_has ls 4 [(3, .int (nI k)), (2, .int (li_s σ i k)), (0, .ref (ad (4 * i + 14))), (1, .ref (ad 1))] → W p l e { frames := 2, cells := 0, slots := 0, locals := 44 } s m ([.ref (ad (4 * i + 14)), .ref (ad 1)] : List Value).toArray below meth c s.heap [] 0 0 (MQ below (ok_R (some (.int (li_h σ i (li_s σ i n))))) ([.ref (ad (4 * i + 14)), .ref (ad 1)] : List Value).toArray s 0 0 (fun _ => False)) (F0 m 4 ls []) := by
    intro f
    induction f with
    | zero => intro k h1 h2; omega
    | succ f ih =>
      intro k h1 h2 ls hl
      refine lv_iload_n hx hb d_Li_canHold_4 rfl (lv_at hl 0 rfl) ?_
      refine lv_aload_n hx hb d_Li_canHold_5 rfl (lv_at hl 3 rfl) ?_
      refine x_Co_count F (tt1 208 rfl rfl) ⟨Nat.le_of_ble_eq_true rfl, Nat.le_of_ble_eq_true rfl⟩ hK hP hl.1 (Nat.le_of_ble_eq_true rfl) ⟨Nat.zero_le _, Nat.zero_le _⟩ d_Li_canHold_6 ?_
      refine lv_icmp_ge (tgt := 27) hx hb d_Li_canHold_9 (by decide) (fun c1 => ?_) (fun c1 => ?_)
      · have hkn : k = n := by
          rw [hn, nI_leI (by omega) (by omega)] at c1; omega
        subst hkn
        refine lv_aload_n hx hb d_Li_canHold_27 rfl (lv_at hl 2 rfl) ?_
        refine lv_iload_n hx hb d_Li_canHold_28 rfl (lv_at hl 1 rfl) ?_
        refine x_Li_holds (i := i) hi F (tt1 220 rfl rfl) ⟨Nat.le_of_ble_eq_true rfl, Nat.le_of_ble_eq_true rfl⟩ hK hP hl.1 (Nat.le_of_ble_eq_true rfl) ⟨Nat.zero_le _, Nat.zero_le _⟩ d_Li_canHold_29 ?_
        exact ok_zretR F hr hlk (li_h_b) (rfl) d_Li_canHold_32
      · have hkn : k < n := by
          rw [hn, nI_leI (by omega) (by omega)] at c1; omega
        refine lv_iload_n hx hb d_Li_canHold_12 rfl (lv_at hl 1 rfl) ?_
        refine lv_aload_n hx hb d_Li_canHold_13 rfl (lv_at hl 2 rfl) ?_
        refine lv_aload_n hx hb d_Li_canHold_14 rfl (lv_at hl 3 rfl) ?_
        refine lv_iload_n hx hb d_Li_canHold_15 rfl (lv_at hl 0 rfl) ?_
        refine x_Li_kindest (i := i) hi (j := k) rfl (by omega) F (tt1 209 rfl rfl) ⟨Nat.le_of_ble_eq_true rfl, Nat.le_of_ble_eq_true rfl⟩ hK hP hl.1 (Nat.le_of_ble_eq_true rfl) ⟨Nat.zero_le _, Nat.zero_le _⟩ d_Li_canHold_16 ?_
        refine lv_iadd hx hb d_Li_canHold_19 ?_
        refine lv_istore_n (lv' := [(2, .int ((li_s σ i k) + (li_k σ i k))), (3, .int (nI k)), (0, .ref (ad (4 * i + 14))), (1, .ref (ad 1))]) hx hb d_Li_canHold_20 rfl hl (by decide) rfl (fun ls hl => ?_)
        refine lv_iinc (v := nI (k + 1)) (lv' := [(3, .int (nI (k + 1))), (2, .int ((li_s σ i k) + (li_k σ i k))), (0, .ref (ad (4 * i + 14))), (1, .ref (ad 1))]) hx hb d_Li_canHold_21 hl (k := 1) rfl (nI_inc _) (by decide) rfl (fun ls hl => ?_)
        refine lv_goto (tgt := 4) hx hb d_Li_canHold_24 (by decide) ?_
        exact ih (k + 1) (by omega) (by omega) ls (lv_sub hl [0, 1, 2, 3] rfl)
  refine lv_iconst (v := 0) hx hb d_Li_canHold_0 (by decide) ?_
  refine lv_istore_n (lv' := [(2, .int 0), (0, .ref (ad (4 * i + 14))), (1, .ref (ad 1))]) hx hb d_Li_canHold_1 rfl hl (by decide) rfl (fun ls hl => ?_)
  refine lv_iconst (v := 0) hx hb d_Li_canHold_2 (by decide) ?_
  refine lv_istore_n (lv' := [(3, .int 0), (2, .int 0), (0, .ref (ad (4 * i + 14))), (1, .ref (ad 1))]) hx hb d_Li_canHold_3 rfl hl (by decide) rfl (fun ls hl => ?_)
  exact lp (n + 1) 0 (by omega) (by omega) ls (lv_sub hl [0, 1, 2, 3] rfl)
theorem x_Li_canHold {σ : oS} {i : Nat} (hi : i < 8) {n : Nat} (hn : σ 2 0 0 = nI n) (hn9 : n ≤ 5) (F : CallFix p m c cc nL s args (cw :: tt) own) (hG : Cond.methodLink own index y_Li_canHold ∈ tt) (hR : 2 + 1 ≤ R.frames ∧ 8 + (4 + 11) + 44 ≤ R.locals) (hK : va_K D vwCl (ot cI cL) s) (hP : va_P D vwCl (ow cI cL ad σ) H) (hsz : ls.size = nL) (hW : (rest.map fun v => v.category).sum ≤ 8) (hcs : cells ≤ R.cells ∧ slots ≤ R.slots) (hdg : decode cc pc = .ok (.invokevirtual index, 3)) (kk : W p l e R s m args below meth c H locs cells slots Q (F0 m (pc + 3) ls (.int (li_h σ i (li_s σ i n)) :: rest))) : W p l e R s m args below meth c H locs cells slots Q (F0 m pc ls (.ref (ad 1) :: .ref (ad (4 * i + 14)) :: rest)) :=
  ok_VR (As := [.ref (ad 1)]) F (c_Li_canHold σ hi hn hn9) 1 (tt_V hG i_Li_canHold l_Li_canHold in9_Li k_Li_canHold) rfl ⟨rfl, rfl⟩ (by decide +kernel) hR hK hP (4 * i + 14) 1 rfl rfl (ow_l0 hi) rfl hsz rfl hW hcs hdg kk
set_option maxHeartbeats 4000000 in
set_option maxRecDepth 100000 in
theorem c_Li_beginSums (σ : oS) {i : Nat} (hi : i < 8) {n : Nat} (hn : σ 2 0 0 = nI n) (hn9 : n ≤ 5) : ok_MM l y_Li_beginSums (Cond.code y_Li_beginSums b_Li_beginSums 4 none :: tt) { frames := 2, cells := 0, slots := 0, locals := 44 } D vwCl (ot cI cL) (ow cI cL ad σ) (ow cI cL ad (u3 (li_b σ i n 0) 7 i 0 0)) [.ref (ad (4 * i + 14)), .ref (ad 1)] none := by
  refine ok_startM (cc := b_Li_beginSums) (own := RLi) (maxL := 4) (ret := none) (by decide +kernel) rfl rfl (Nat.le_of_ble_eq_true rfl) ?_
  intro p e s m below meth c A F hr hlk hA hP hK hD hS ls hl
  have hl : lv_has ls 4 [(0, .ref (ad (4 * i + 14))), (1, .ref (ad 1))] := hl
  have hx := F.1
  have hb := F.2.1
  have lp : ∀ r : Nat, r ≤ n → ∀ (x : Int32), x = nI r - 1 → ∀ (H : Heap) (locs : List Loc), va_P D vwCl (ow cI cL ad (li_b σ i n r)) H → va_D A (ow cI cL ad (li_b σ i n r)) → va_S A s.heap H locs → ∀ ls : Array Slot, lv_has ls 4 [(3, .int x), (2, .int (σ 2 0 0)), (0, .ref (ad (4 * i + 14))), (1, .ref (ad 1))] → W p l e { frames := 2, cells := 0, slots := 0, locals := 44 } s m ([.ref (ad (4 * i + 14)), .ref (ad 1)] : List Value).toArray below meth c H locs 0 0 (MQ below (ok_qA D vwCl A (ow cI cL ad (u3 (li_b σ i n 0) 7 i 0 0)) none) ([.ref (ad (4 * i + 14)), .ref (ad 1)] : List Value).toArray s 0 0 A) (F0 m 16 ls []) := by
    intro r
    induction r with
    | zero =>
      intro h1 x hx9 H locs hP hD hS ls hl
      refine lv_iload_n hx hb d_Li_beginSums_16 rfl (lv_at hl 0 rfl) ?_
      refine lv_if_lt (tgt := 47) hx hb d_Li_beginSums_17 (by decide) (fun c1 => ?_) (fun c1 => ?_)
      · refine lv_aload_n hx hb d_Li_beginSums_47 rfl (lv_at hl 2 rfl) ?_
        refine gf_Li_sums (i := i) F hK hP (by omega) d_Li_beginSums_48 ?_
        refine lv_iconst (v := 0) hx hb d_Li_beginSums_51 (by decide) ?_
        refine lv_iconst (v := 0) hx hb d_Li_beginSums_52 (by decide) ?_
        refine sa_7 (i := i) (j := 0) F hK hP hD hS (by omega) (by decide) (by omega) d_Li_beginSums_53 (fun H locs hP hD hS => ?_)
        exact ok_vretM F hr hlk hP hD hS d_Li_beginSums_54
      · exact absurd (by rw [hx9]; decide) c1
    | succ r ih =>
      intro h1 x hx9 H locs hP hD hS ls hl
      rw [nI_pred] at hx9
      refine lv_iload_n hx hb d_Li_beginSums_16 rfl (lv_at hl 0 rfl) ?_
      refine lv_if_lt (tgt := 47) hx hb d_Li_beginSums_17 (by decide) (fun c2 => ?_) (fun c2 => ?_)
      · exact absurd c2 (by rw [hx9]; exact nI_pos (by omega))
      · refine lv_aload_n hx hb d_Li_beginSums_20 rfl (lv_at hl 2 rfl) ?_
        refine gf_Li_helps (i := i) F hK hP (by omega) d_Li_beginSums_21 ?_
        refine lv_iload_n hx hb d_Li_beginSums_24 rfl (lv_at hl 0 rfl) ?_
        refine lv_aload_n hx hb d_Li_beginSums_25 rfl (lv_at hl 2 rfl) ?_
        refine gf_Li_helps (i := i) F hK hP (by omega) d_Li_beginSums_26 ?_
        refine lv_iload_n hx hb d_Li_beginSums_29 rfl (lv_at hl 0 rfl) ?_
        refine lv_iconst (v := 1) hx hb d_Li_beginSums_30 (by decide) ?_
        refine lv_iadd hx hb d_Li_beginSums_31 ?_
        refine ia_8 (i := i) (j := (r + 1)) F hK hP (by omega) (by rw [hx9]; exact nI_1 _) (by omega) d_Li_beginSums_32 ?_
        refine lv_aload_n hx hb d_Li_beginSums_33 rfl (lv_at hl 2 rfl) ?_
        refine lv_aload_n hx hb d_Li_beginSums_34 rfl (lv_at hl 3 rfl) ?_
        refine lv_iload_n hx hb d_Li_beginSums_35 rfl (lv_at hl 0 rfl) ?_
        refine x_Li_kindest (i := i) (by omega) (j := r) hx9 (by omega) F (tt1 209 rfl rfl) ⟨Nat.le_of_ble_eq_true rfl, Nat.le_of_ble_eq_true rfl⟩ hK hP hl.1 (Nat.le_of_ble_eq_true rfl) ⟨Nat.zero_le _, Nat.zero_le _⟩ d_Li_beginSums_36 ?_
        refine lv_iadd hx hb d_Li_beginSums_39 ?_
        refine sa_8 (i := i) (j := r) F hK hP hD hS (by omega) hx9 (by omega) d_Li_beginSums_40 (fun H locs hP hD hS => ?_)
        refine lv_iinc (v := x + (-1)) (lv' := [(3, .int (x + (-1))), (2, .int (σ 2 0 0)), (0, .ref (ad (4 * i + 14))), (1, .ref (ad 1))]) hx hb d_Li_beginSums_41 hl (k := 0) rfl (by rw [litm1]) (by decide) rfl (fun ls hl => ?_)
        refine lv_goto (tgt := 16) hx hb d_Li_beginSums_44 (by decide) ?_
        rw [li_b_step (by omega)] at hP hD
        exact ih (by omega) _ (by rw [hx9, Int32.sub_eq_add_neg]) H locs hP hD hS ls (lv_sub hl [0, 1, 2, 3] rfl)
  refine lv_aload_n hx hb d_Li_beginSums_0 rfl (lv_at hl 1 rfl) ?_
  refine x_Co_count F (tt1 208 rfl rfl) ⟨Nat.le_of_ble_eq_true rfl, Nat.le_of_ble_eq_true rfl⟩ hK hP hl.1 (Nat.le_of_ble_eq_true rfl) ⟨Nat.zero_le _, Nat.zero_le _⟩ d_Li_beginSums_1 ?_
  refine lv_istore_n (lv' := [(2, .int (σ 2 0 0)), (0, .ref (ad (4 * i + 14))), (1, .ref (ad 1))]) hx hb d_Li_beginSums_4 rfl hl (by decide) rfl (fun ls hl => ?_)
  refine lv_aload_n hx hb d_Li_beginSums_5 rfl (lv_at hl 1 rfl) ?_
  refine gf_Li_helps (i := i) F hK hP hi d_Li_beginSums_6 ?_
  refine lv_iload_n hx hb d_Li_beginSums_9 rfl (lv_at hl 0 rfl) ?_
  refine lv_iconst (v := 0) hx hb d_Li_beginSums_10 (by decide) ?_
  refine sa_8 (i := i) (j := n) F hK hP hD hS hi hn (by omega) d_Li_beginSums_11 (fun H locs hP hD hS => ?_)
  refine lv_iload_n hx hb d_Li_beginSums_12 rfl (lv_at hl 0 rfl) ?_
  refine lv_iconst (v := 1) hx hb d_Li_beginSums_13 (by decide) ?_
  refine lv_isub hx hb d_Li_beginSums_14 ?_
  refine lv_istore_n (lv' := [(3, .int ((σ 2 0 0) - 1)), (2, .int (σ 2 0 0)), (0, .ref (ad (4 * i + 14))), (1, .ref (ad 1))]) hx hb d_Li_beginSums_15 rfl hl (by decide) rfl (fun ls hl => ?_)
  rw [li_b_0] at hP hD
  exact lp n (by omega) _ (by rw [hn]) H locs hP hD hS ls (lv_sub hl [0, 1, 2, 3] rfl)
theorem x_Li_beginSums {σ : oS} {i : Nat} (hi : i < 8) {n : Nat} (hn : σ 2 0 0 = nI n) (hn9 : n ≤ 5) (F : CallFix p m c cc nL s args (cw :: tt) own) (hG : Cond.methodLink own index y_Li_beginSums ∈ tt) (hR : 2 + 1 ≤ R.frames ∧ 8 + (4 + 11) + 44 ≤ R.locals) (hK : va_K D vwCl (ot cI cL) s) (hP : va_P D vwCl (ow cI cL ad σ) H) (hD : va_D A (ow cI cL ad σ)) (hS : va_S A H0 H locs) (hA : ∀ q, H0.size ≤ q → A q) (hsz : ls.size = nL) (hW : (rest.map fun v => v.category).sum ≤ 8) (hcs : cells ≤ R.cells ∧ slots ≤ R.slots) (hdg : decode cc pc = .ok (.invokevirtual index, 3)) (kk : ∀ (H1 : Heap) (locs1 : List Loc), va_P D vwCl (ow cI cL ad (u3 (li_b σ i n 0) 7 i 0 0)) H1 → va_D A (ow cI cL ad (u3 (li_b σ i n 0) 7 i 0 0)) → va_S A H0 H1 locs1 → W p l e R s m args below meth c H1 locs1 cells slots Q (F0 m (pc + 3) ls (rest))) : W p l e R s m args below meth c H locs cells slots Q (F0 m pc ls (.ref (ad 1) :: .ref (ad (4 * i + 14)) :: rest)) :=
  ok_VM (As := [.ref (ad 1)]) F (c_Li_beginSums σ hi hn hn9) 1 (tt_V hG i_Li_beginSums l_Li_beginSums in9_Li k_Li_beginSums) rfl ⟨rfl, rfl⟩ (by decide +kernel) hR hK hP hD hS hA (4 * i + 14) 1 rfl rfl (ow_l0 hi) rfl hsz rfl hW hcs hdg kk
set_option maxHeartbeats 4000000 in
set_option maxRecDepth 100000 in
theorem c_Li_stillHolds (σ : oS) {i : Nat} (hi : i < 8) {x : Int32} {j : Nat} (hj : x = nI j) (hj9 : j < 5) {y : Int32} : ok_MM l y_Li_stillHolds (Cond.code y_Li_stillHolds b_Li_stillHolds 4 (some .boolean) :: tt) { frames := 1, cells := 0, slots := 0, locals := 21 } D vwCl (ot cI cL) (ow cI cL ad σ) (ow cI cL ad (u3 σ 7 i (j + 1) (σ 7 i j + σ 3 i j * y))) [.ref (ad (4 * i + 14)), .int x, .int y] (some (.int (li_h σ i (σ 7 i j + σ 3 i j * y + σ 8 i (j + 1))))) := by
  refine ok_startM (cc := b_Li_stillHolds) (own := RLi) (maxL := 4) (ret := (some .boolean)) (by decide +kernel) rfl rfl (Nat.le_of_ble_eq_true rfl) ?_
  intro p e s m below meth c A F hr hlk hA hP hK hD hS ls hl
  have hl : lv_has ls 4 [(0, .ref (ad (4 * i + 14))), (1, .int x), (2, .int y)] := hl
  have hx := F.1
  have hb := F.2.1
  refine lv_aload_n hx hb d_Li_stillHolds_0 rfl (lv_at hl 0 rfl) ?_
  refine gf_Li_sums (i := i) F hK hP hi d_Li_stillHolds_1 ?_
  refine lv_iload_n hx hb d_Li_stillHolds_4 rfl (lv_at hl 1 rfl) ?_
  refine ia_7 (i := i) (j := j) F hK hP hi hj (by omega) d_Li_stillHolds_5 ?_
  refine lv_aload_n hx hb d_Li_stillHolds_6 rfl (lv_at hl 0 rfl) ?_
  refine gf_Li_factors (i := i) F hK hP hi d_Li_stillHolds_7 ?_
  refine lv_iload_n hx hb d_Li_stillHolds_10 rfl (lv_at hl 1 rfl) ?_
  refine ia_3 (i := i) (j := j) F hK hP hi hj (by omega) d_Li_stillHolds_11 ?_
  refine lv_iload_n hx hb d_Li_stillHolds_12 rfl (lv_at hl 2 rfl) ?_
  refine lv_imul hx hb d_Li_stillHolds_13 ?_
  refine lv_iadd hx hb d_Li_stillHolds_14 ?_
  refine lv_istore_n (lv' := [(3, .int ((σ 7 i j) + ((σ 3 i j) * y))), (0, .ref (ad (4 * i + 14))), (1, .int x), (2, .int y)]) hx hb d_Li_stillHolds_15 rfl hl (by decide) rfl (fun ls hl => ?_)
  refine lv_aload_n hx hb d_Li_stillHolds_16 rfl (lv_at hl 1 rfl) ?_
  refine gf_Li_sums (i := i) F hK hP hi d_Li_stillHolds_17 ?_
  refine lv_iload_n hx hb d_Li_stillHolds_20 rfl (lv_at hl 2 rfl) ?_
  refine lv_iconst (v := 1) hx hb d_Li_stillHolds_21 (by decide) ?_
  refine lv_iadd hx hb d_Li_stillHolds_22 ?_
  refine lv_iload_n hx hb d_Li_stillHolds_23 rfl (lv_at hl 0 rfl) ?_
  refine sa_7 (i := i) (j := (j + 1)) F hK hP hD hS hi (by rw [hj]; exact nI_1 _) (by omega) d_Li_stillHolds_24 (fun H locs hP hD hS => ?_)
  refine lv_aload_n hx hb d_Li_stillHolds_25 rfl (lv_at hl 1 rfl) ?_
  refine lv_iload_n hx hb d_Li_stillHolds_26 rfl (lv_at hl 0 rfl) ?_
  refine lv_aload_n hx hb d_Li_stillHolds_27 rfl (lv_at hl 1 rfl) ?_
  refine gf_Li_helps (i := i) F hK hP hi d_Li_stillHolds_28 ?_
  refine lv_iload_n hx hb d_Li_stillHolds_31 rfl (lv_at hl 2 rfl) ?_
  refine lv_iconst (v := 1) hx hb d_Li_stillHolds_32 (by decide) ?_
  refine lv_iadd hx hb d_Li_stillHolds_33 ?_
  refine ia_8 (i := i) (j := (j + 1)) F hK hP hi (by rw [hj]; exact nI_1 _) (by omega) d_Li_stillHolds_34 ?_
  refine lv_iadd hx hb d_Li_stillHolds_35 ?_
  refine x_Li_holds (i := i) hi F (tt1 220 rfl rfl) ⟨Nat.le_of_ble_eq_true rfl, Nat.le_of_ble_eq_true rfl⟩ hK hP hl.1 (Nat.le_of_ble_eq_true rfl) ⟨Nat.zero_le _, Nat.zero_le _⟩ d_Li_stillHolds_36 ?_
  exact ok_zretM F hr hlk hP hD hS (li_h_b) (by simp [li_h, u3_at]) d_Li_stillHolds_39
theorem x_Li_stillHolds {σ : oS} {i : Nat} (hi : i < 8) {x : Int32} {j : Nat} (hj : x = nI j) (hj9 : j < 5) {y : Int32} (F : CallFix p m c cc nL s args (cw :: tt) own) (hG : Cond.methodLink own index y_Li_stillHolds ∈ tt) (hR : 1 + 1 ≤ R.frames ∧ 8 + (4 + 11) + 21 ≤ R.locals) (hK : va_K D vwCl (ot cI cL) s) (hP : va_P D vwCl (ow cI cL ad σ) H) (hD : va_D A (ow cI cL ad σ)) (hS : va_S A H0 H locs) (hA : ∀ q, H0.size ≤ q → A q) (hsz : ls.size = nL) (hW : (rest.map fun v => v.category).sum ≤ 8) (hcs : cells ≤ R.cells ∧ slots ≤ R.slots) (hdg : decode cc pc = .ok (.invokevirtual index, 3)) (kk : ∀ (H1 : Heap) (locs1 : List Loc), va_P D vwCl (ow cI cL ad (u3 σ 7 i (j + 1) (σ 7 i j + σ 3 i j * y))) H1 → va_D A (ow cI cL ad (u3 σ 7 i (j + 1) (σ 7 i j + σ 3 i j * y))) → va_S A H0 H1 locs1 → W p l e R s m args below meth c H1 locs1 cells slots Q (F0 m (pc + 3) ls (.int (li_h σ i (σ 7 i j + σ 3 i j * y + σ 8 i (j + 1))) :: rest))) : W p l e R s m args below meth c H locs cells slots Q (F0 m pc ls (.int y :: .int x :: .ref (ad (4 * i + 14)) :: rest)) :=
  ok_VM (As := [.int x, .int y]) F (c_Li_stillHolds σ hi hj hj9) 2 (tt_V hG i_Li_stillHolds l_Li_stillHolds in9_Li k_Li_stillHolds) rfl ⟨rfl, rfl⟩ (by decide +kernel) hR hK hP hD hS hA (4 * i + 14) 1 rfl rfl (ow_l0 hi) rfl hsz rfl hW hcs hdg kk
end
end
section
-- the lines by their numbers: r rows, then cuts
def ls_i (r k : Nat) : Nat := if k < r then k else (k - r) + 4
theorem ls_i_lt {r c k : Nat} (hr : r ≤ 4) (hc : c ≤ 4) (h : k < r + c) : ls_i r k < 8 := by
  unfold ls_i; split <;> omega
/-- weights of the first m lines are 0 -/
def ls_z (σ : oS) (r : Nat) : Nat → oS
  | 0 => σ
  | m + 1 => u3 (ls_z σ r m) 6 (ls_i r m) 0 0
theorem ls_z_c {σ : oS} {r m c : Nat} (h : c ≠ 6) : ls_z σ r m c = σ c := by
  induction m with
  | zero => rfl
  | succ m ih => rw [ls_z, u3_c h, ih]
def ls_hc (σ : oS) (a b : Nat) : Nat → Bool
  | 0 => false
  | k + 1 => ls_hc σ a b k || (σ 3 (k + 4) a == 1 && σ 3 (k + 4) b == 1)
theorem ls_hc_mono {σ : oS} {a b k m : Nat} (h : k ≤ m) (hk : ls_hc σ a b k = true) : ls_hc σ a b m = true := by
  induction m with
  | zero => rw [show k = 0 by omega] at hk; exact hk
  | succ m ih =>
    by_cases q : k = m + 1
    · rw [← q]; exact hk
    · rw [ls_hc, ih (by omega)]; rfl
def ls_wr (σ : oS) (r : Nat) : Nat → Int64
  | 0 => 0
  | k + 1 => ls_wr σ r k + Int32.toInt64 (σ 6 (ls_i r k) 0) * Int32.toInt64 (σ 5 (ls_i r k) 0)
def ls_wf (σ : oS) (r j : Nat) : Nat → Int64
  | 0 => 0
  | k + 1 => ls_wf σ r j k + Int32.toInt64 (σ 6 (ls_i r k) 0) * Int32.toInt64 (σ 3 (ls_i r k) j)
/-- beginSums of the first m lines -/
def ls_b (σ : oS) (r n : Nat) : Nat → oS
  | 0 => σ
  | m + 1 => u3 (li_b (ls_b σ r n m) (ls_i r m) n 0) 7 (ls_i r m) 0 0
theorem ls_b_c {σ : oS} {r n m c : Nat} (h7 : c ≠ 7) (h8 : c ≠ 8) : ls_b σ r n m c = σ c := by
  induction m with
  | zero => rfl
  | succ m ih =>
    rw [ls_b, u3_c h7, li_b]
    funext i9
    rw [uA_n (fun q => h8 q.1), ih]
/-- stillHold from the line k on, f lines -/
def ls_t (τ : oS) (i j : Nat) (y : Int32) : oS := u3 τ 7 i (j + 1) (τ 7 i j + τ 3 i j * y)
def ls_v (τ : oS) (i j : Nat) (y : Int32) : Int32 := li_h τ i (τ 7 i j + τ 3 i j * y + τ 8 i (j + 1))
def ls_x (r j : Nat) (y : Int32) : Nat → Nat → oS → oS × Int32
  | 0, _, τ => (τ, 1)
  | f + 1, k, τ => if ls_v τ (ls_i r k) j y = 0 then (ls_t τ (ls_i r k) j y, 0) else ls_x r j y f (k + 1) (ls_t τ (ls_i r k) j y)
theorem ls_t_c {τ : oS} {i j c : Nat} {y : Int32} (h : c ≠ 7) : ls_t τ i j y c = τ c := u3_c h
/-- the lines hold of 0 -/
def ls_0 (σ : oS) (r : Nat) : Nat → Bool
  | 0 => true
  | k + 1 => ls_0 σ r k && (li_h σ (ls_i r k) 0 == 1)
theorem ls_0_mono {σ : oS} {r k m : Nat} (h : k ≤ m) (hk : ls_0 σ r k = false) : ls_0 σ r m = false := by
  induction m with
  | zero => rw [show k = 0 by omega] at hk; exact hk
  | succ m ih =>
    by_cases q : k = m + 1
    · rw [← q]; exact hk
    · rw [ls_0, ih (by omega)]; rfl
theorem li_h_1 {σ : oS} {i : Nat} {x : Int32} (h : ¬ li_h σ i x = 0) : li_h σ i x = 1 := by
  unfold li_h at h ⊢
  split <;> split <;> simp_all
theorem ls_cnt {σ : oS} {r u : Nat} (h_r : σ 9 0 0 = nI r) (h_u : σ 10 0 0 = nI u) : σ 9 0 0 + σ 10 0 0 = nI (r + u) := by rw [h_r, h_u, nI_add]
section
variable {l : Launch} {D : va_G} {cI cL : ClassId} {ad : Nat → Nat}
variable {p : Program} {e : Env} {R : Room} {s : State} {m : MethodId} {args : Array Value} {below : List Frame} {meth : Method} {c : Code} {H : Heap} {locs : List Loc} {cells slots : Nat} {Q : State → Prop} {cc : ByteArray} {pc nL index : Nat} {ls : Array Slot} {rest : List Value} {A : Nat → Prop} {H0 : Heap} {cw : Cond} {own : String}
set_option maxHeartbeats 4000000 in
set_option maxRecDepth 100000 in
theorem c_Ls_rowCount (σ : oS) : ok_MR l y_Ls_rowCount (Cond.code y_Ls_rowCount b_Ls_rowCount 1 (some .int) :: tt) { frames := 0, cells := 0, slots := 0, locals := 0 } D vwCl (ot cI cL) (ow cI cL ad σ) [.ref (ad 4)] (some (.int (σ 9 0 0))) := by
  refine ok_startR (cc := b_Ls_rowCount) (own := RLs) (maxL := 1) (ret := (some .int)) (by decide +kernel) rfl rfl (Nat.le_of_ble_eq_true rfl) ?_
  intro p e s m below meth c F hr hlk hP hK ls hl
  have hl : lv_has ls 1 [(0, .ref (ad 4))] := hl
  have hx := F.1
  have hb := F.2.1
  refine lv_aload_n hx hb d_Ls_rowCount_0 rfl (lv_at hl 0 rfl) ?_
  refine gf_Ls_rowCount F hK hP d_Ls_rowCount_1 ?_
  exact ok_iretR F hr hlk (rfl) d_Ls_rowCount_4
theorem x_Ls_rowCount {σ : oS} (F : CallFix p m c cc nL s args (cw :: tt) own) (hG : Cond.methodLink own index y_Ls_rowCount ∈ tt) (hR : 0 + 1 ≤ R.frames ∧ 8 + (1 + 11) + 0 ≤ R.locals) (hK : va_K D vwCl (ot cI cL) s) (hP : va_P D vwCl (ow cI cL ad σ) H) (hsz : ls.size = nL) (hW : (rest.map fun v => v.category).sum ≤ 8) (hcs : cells ≤ R.cells ∧ slots ≤ R.slots) (hdg : decode cc pc = .ok (.invokevirtual index, 3)) (kk : W p l e R s m args below meth c H locs cells slots Q (F0 m (pc + 3) ls (.int (σ 9 0 0) :: rest))) : W p l e R s m args below meth c H locs cells slots Q (F0 m pc ls (.ref (ad 4) :: rest)) :=
  ok_VR (As := []) F (c_Ls_rowCount σ) 0 (tt_V hG i_Ls_rowCount l_Ls_rowCount in9_Ls k_Ls_rowCount) rfl ⟨rfl, rfl⟩ (by decide +kernel) hR hK hP (4) 2 rfl rfl ow_4 rfl hsz rfl hW hcs hdg kk
set_option maxHeartbeats 4000000 in
set_option maxRecDepth 100000 in
theorem c_Ls_cutCount (σ : oS) : ok_MR l y_Ls_cutCount (Cond.code y_Ls_cutCount b_Ls_cutCount 1 (some .int) :: tt) { frames := 0, cells := 0, slots := 0, locals := 0 } D vwCl (ot cI cL) (ow cI cL ad σ) [.ref (ad 4)] (some (.int (σ 10 0 0))) := by
  refine ok_startR (cc := b_Ls_cutCount) (own := RLs) (maxL := 1) (ret := (some .int)) (by decide +kernel) rfl rfl (Nat.le_of_ble_eq_true rfl) ?_
  intro p e s m below meth c F hr hlk hP hK ls hl
  have hl : lv_has ls 1 [(0, .ref (ad 4))] := hl
  have hx := F.1
  have hb := F.2.1
  refine lv_aload_n hx hb d_Ls_cutCount_0 rfl (lv_at hl 0 rfl) ?_
  refine gf_Ls_cutCount F hK hP d_Ls_cutCount_1 ?_
  exact ok_iretR F hr hlk (rfl) d_Ls_cutCount_4
theorem x_Ls_cutCount {σ : oS} (F : CallFix p m c cc nL s args (cw :: tt) own) (hG : Cond.methodLink own index y_Ls_cutCount ∈ tt) (hR : 0 + 1 ≤ R.frames ∧ 8 + (1 + 11) + 0 ≤ R.locals) (hK : va_K D vwCl (ot cI cL) s) (hP : va_P D vwCl (ow cI cL ad σ) H) (hsz : ls.size = nL) (hW : (rest.map fun v => v.category).sum ≤ 8) (hcs : cells ≤ R.cells ∧ slots ≤ R.slots) (hdg : decode cc pc = .ok (.invokevirtual index, 3)) (kk : W p l e R s m args below meth c H locs cells slots Q (F0 m (pc + 3) ls (.int (σ 10 0 0) :: rest))) : W p l e R s m args below meth c H locs cells slots Q (F0 m pc ls (.ref (ad 4) :: rest)) :=
  ok_VR (As := []) F (c_Ls_cutCount σ) 0 (tt_V hG i_Ls_cutCount l_Ls_cutCount in9_Ls k_Ls_cutCount) rfl ⟨rfl, rfl⟩ (by decide +kernel) hR hK hP (4) 2 rfl rfl ow_4 rfl hsz rfl hW hcs hdg kk
set_option maxHeartbeats 4000000 in
set_option maxRecDepth 100000 in
theorem c_Ls_count (σ : oS) : ok_MR l y_Ls_count (Cond.code y_Ls_count b_Ls_count 1 (some .int) :: tt) { frames := 0, cells := 0, slots := 0, locals := 0 } D vwCl (ot cI cL) (ow cI cL ad σ) [.ref (ad 4)] (some (.int (σ 9 0 0 + σ 10 0 0))) := by
  refine ok_startR (cc := b_Ls_count) (own := RLs) (maxL := 1) (ret := (some .int)) (by decide +kernel) rfl rfl (Nat.le_of_ble_eq_true rfl) ?_
  intro p e s m below meth c F hr hlk hP hK ls hl
  have hl : lv_has ls 1 [(0, .ref (ad 4))] := hl
  have hx := F.1
  have hb := F.2.1
  refine lv_aload_n hx hb d_Ls_count_0 rfl (lv_at hl 0 rfl) ?_
  refine gf_Ls_rowCount F hK hP d_Ls_count_1 ?_
  refine lv_aload_n hx hb d_Ls_count_4 rfl (lv_at hl 0 rfl) ?_
  refine gf_Ls_cutCount F hK hP d_Ls_count_5 ?_
  refine lv_iadd hx hb d_Ls_count_8 ?_
  exact ok_iretR F hr hlk (rfl) d_Ls_count_9
theorem x_Ls_count {σ : oS} (F : CallFix p m c cc nL s args (cw :: tt) own) (hG : Cond.methodLink own index y_Ls_count ∈ tt) (hR : 0 + 1 ≤ R.frames ∧ 8 + (1 + 11) + 0 ≤ R.locals) (hK : va_K D vwCl (ot cI cL) s) (hP : va_P D vwCl (ow cI cL ad σ) H) (hsz : ls.size = nL) (hW : (rest.map fun v => v.category).sum ≤ 8) (hcs : cells ≤ R.cells ∧ slots ≤ R.slots) (hdg : decode cc pc = .ok (.invokevirtual index, 3)) (kk : W p l e R s m args below meth c H locs cells slots Q (F0 m (pc + 3) ls (.int (σ 9 0 0 + σ 10 0 0) :: rest))) : W p l e R s m args below meth c H locs cells slots Q (F0 m pc ls (.ref (ad 4) :: rest)) :=
  ok_VR (As := []) F (c_Ls_count σ) 0 (tt_V hG i_Ls_count l_Ls_count in9_Ls k_Ls_count) rfl ⟨rfl, rfl⟩ (by decide +kernel) hR hK hP (4) 2 rfl rfl ow_4 rfl hsz rfl hW hcs hdg kk
set_option maxHeartbeats 4000000 in
set_option maxRecDepth 100000 in
theorem c_Ls_at (σ : oS) {r : Nat} {u : Nat} (h_r : σ 9 0 0 = nI r) (h_u : σ 10 0 0 = nI u) (hr4 : r ≤ 4) (hu4 : u ≤ 4) {x : Int32} {k : Nat} (hk : x = nI k) (hk9 : k < 8) (hk8 : k < r + u) : ok_MR l y_Ls_at (Cond.code y_Ls_at b_Ls_at 2 (some (.object "OrderBounds$Line")) :: tt) { frames := 0, cells := 0, slots := 0, locals := 0 } D vwCl (ot cI cL) (ow cI cL ad σ) [.ref (ad 4), .int x] (some (.ref (ad (4 * ls_i r k + 14)))) := by
  refine ok_startR (cc := b_Ls_at) (own := RLs) (maxL := 2) (ret := (some (.object "OrderBounds$Line"))) (by decide +kernel) rfl rfl (Nat.le_of_ble_eq_true rfl) ?_
  intro p e s m below meth c F hr hlk hP hK ls hl
  have hl : lv_has ls 2 [(0, .ref (ad 4)), (1, .int x)] := hl
  have hx := F.1
  have hb := F.2.1
  refine lv_iload_n hx hb d_Ls_at_0 rfl (lv_at hl 1 rfl) ?_
  refine lv_aload_n hx hb d_Ls_at_1 rfl (lv_at hl 0 rfl) ?_
  refine gf_Ls_rowCount F hK hP d_Ls_at_2 ?_
  refine lv_icmp_ge (tgt := 17) hx hb d_Ls_at_5 (by decide) (fun c1 => ?_) (fun c1 => ?_)
  · have hlt : r ≤ k := by
      rw [h_r, hk, nI_leI (by omega) (by omega)] at c1; omega
    refine lv_aload_n hx hb d_Ls_at_17 rfl (lv_at hl 0 rfl) ?_
    refine gf_Ls_cuts F hK hP d_Ls_at_18 ?_
    refine lv_iload_n hx hb d_Ls_at_21 rfl (lv_at hl 1 rfl) ?_
    refine lv_aload_n hx hb d_Ls_at_22 rfl (lv_at hl 0 rfl) ?_
    refine gf_Ls_rowCount F hK hP d_Ls_at_23 ?_
    refine lv_isub hx hb d_Ls_at_26 ?_
    refine ok_aald F hK hP 6 1 ow_6 rfl (j := (k - r)) (by rw [hk, h_r]; exact pk_sub (by omega)) (by omega) (by decide) rfl d_Ls_at_27 ?_
    exact ok_aretR F hr hlk (by first | rw [ls_i, if_pos hlt] | rw [ls_i, if_neg (by omega)]) d_Ls_at_28
  · have hlt : k < r := by
      rw [h_r, hk, nI_leI (by omega) (by omega)] at c1; omega
    refine lv_aload_n hx hb d_Ls_at_8 rfl (lv_at hl 0 rfl) ?_
    refine gf_Ls_rows F hK hP d_Ls_at_9 ?_
    refine lv_iload_n hx hb d_Ls_at_12 rfl (lv_at hl 1 rfl) ?_
    refine ok_aald F hK hP 5 1 ow_5 rfl (j := k) hk (by omega) (by decide) rfl d_Ls_at_13 ?_
    refine lv_goto (tgt := 28) hx hb d_Ls_at_14 (by decide) ?_
    exact ok_aretR F hr hlk (by first | rw [ls_i, if_pos hlt] | rw [ls_i, if_neg (by omega)]) d_Ls_at_28
theorem x_Ls_at {σ : oS} {r : Nat} {u : Nat} (h_r : σ 9 0 0 = nI r) (h_u : σ 10 0 0 = nI u) (hr4 : r ≤ 4) (hu4 : u ≤ 4) {x : Int32} {k : Nat} (hk : x = nI k) (hk9 : k < 8) (hk8 : k < r + u) (F : CallFix p m c cc nL s args (cw :: tt) own) (hG : Cond.methodLink own index y_Ls_at ∈ tt) (hR : 0 + 1 ≤ R.frames ∧ 8 + (2 + 11) + 0 ≤ R.locals) (hK : va_K D vwCl (ot cI cL) s) (hP : va_P D vwCl (ow cI cL ad σ) H) (hsz : ls.size = nL) (hW : (rest.map fun v => v.category).sum ≤ 8) (hcs : cells ≤ R.cells ∧ slots ≤ R.slots) (hdg : decode cc pc = .ok (.invokevirtual index, 3)) (kk : W p l e R s m args below meth c H locs cells slots Q (F0 m (pc + 3) ls (.ref (ad (4 * ls_i r k + 14)) :: rest))) : W p l e R s m args below meth c H locs cells slots Q (F0 m pc ls (.int x :: .ref (ad 4) :: rest)) :=
  ok_VR (As := [.int x]) F (c_Ls_at σ h_r h_u hr4 hu4 hk hk9 hk8) 1 (tt_V hG i_Ls_at l_Ls_at in9_Ls k_Ls_at) rfl ⟨rfl, rfl⟩ (by decide +kernel) hR hK hP (4) 2 rfl rfl ow_4 rfl hsz rfl hW hcs hdg kk
set_option maxHeartbeats 4000000 in
set_option maxRecDepth 100000 in
theorem c_Ls_hasCut (σ : oS) {r : Nat} {u : Nat} (h_r : σ 9 0 0 = nI r) (h_u : σ 10 0 0 = nI u) (hr4 : r ≤ 4) (hu4 : u ≤ 4) {x : Int32} {j : Nat} (hj : x = nI j) (hj9 : j < 5) {y : Int32} {t : Nat} (ht : y = nI t) (ht9 : t < 5) : ok_MR l y_Ls_hasCut (Cond.code y_Ls_hasCut b_Ls_hasCut 4 (some .boolean) :: tt) { frames := 1, cells := 0, slots := 0, locals := 21 } D vwCl (ot cI cL) (ow cI cL ad σ) [.ref (ad 4), .int x, .int y] (some (.int (if ls_hc σ j t u = true then 1 else 0))) := by
  refine ok_startR (cc := b_Ls_hasCut) (own := RLs) (maxL := 4) (ret := (some .boolean)) (by decide +kernel) rfl rfl (Nat.le_of_ble_eq_true rfl) ?_
  intro p e s m below meth c F hr hlk hP hK ls hl
  have hl : lv_has ls 4 [(0, .ref (ad 4)), (1, .int x), (2, .int y)] := hl
  have hx := F.1
  have hb := F.2.1
  have lp : ∀ (f k : Nat), k ≤ u → u - k < f → ls_hc σ j t k = false → ∀ ls : Array Slot, lv_has ls 4 [(3, .int (nI k)), (0, .ref (ad 4)), (1, .int x), (2, .int y)] → W p l e { frames := 1, cells := 0, slots := 0, locals := 21 } s m ([.ref (ad 4), .int x, .int y] : List Value).toArray below meth c s.heap [] 0 0 (MQ below (ok_R (some (.int (if ls_hc σ j t u = true then 1 else 0)))) ([.ref (ad 4), .int x, .int y] : List Value).toArray s 0 0 (fun _ => False)) (F0 m 2 ls []) := by
    intro f
    induction f with
    | zero => intro k h1 h2; omega
    | succ f ih =>
      intro k h1 h2 hin ls hl
      refine lv_iload_n hx hb d_Ls_hasCut_2 rfl (lv_at hl 0 rfl) ?_
      refine lv_aload_n hx hb d_Ls_hasCut_3 rfl (lv_at hl 1 rfl) ?_
      refine gf_Ls_cutCount F hK hP d_Ls_hasCut_4 ?_
      refine lv_icmp_ge (tgt := 46) hx hb d_Ls_hasCut_7 (by decide) (fun c1 => ?_) (fun c1 => ?_)
      · have hkn : u = k := by
          rw [h_u, nI_leI (by omega) (by omega)] at c1; omega
        subst hkn
        refine lv_iconst (v := 0) hx hb d_Ls_hasCut_46 (by decide) ?_
        exact ok_zretR F hr hlk (rfl) (by rw [if_neg (by rw [hin]; decide)]) d_Ls_hasCut_47
      · have hkn : k < u := by
          rw [h_u, nI_leI (by omega) (by omega)] at c1; omega
        refine lv_aload_n hx hb d_Ls_hasCut_10 rfl (lv_at hl 1 rfl) ?_
        refine gf_Ls_cuts F hK hP d_Ls_hasCut_11 ?_
        refine lv_iload_n hx hb d_Ls_hasCut_14 rfl (lv_at hl 0 rfl) ?_
        refine ok_aald F hK hP 6 1 ow_6 rfl (j := k) rfl (by omega) (by decide) rfl d_Ls_hasCut_15 ?_
        refine lv_iload_n hx hb d_Ls_hasCut_16 rfl (lv_at hl 2 rfl) ?_
        refine x_Li_factorOf (i := (k + 4)) (by omega) (j := j) hj (by omega) F (tt1 187 rfl rfl) ⟨Nat.le_of_ble_eq_true rfl, Nat.le_of_ble_eq_true rfl⟩ hK hP hl.1 (Nat.le_of_ble_eq_true rfl) ⟨Nat.zero_le _, Nat.zero_le _⟩ d_Ls_hasCut_17 ?_
        refine lv_iconst (v := 1) hx hb d_Ls_hasCut_20 (by decide) ?_
        refine lv_icmp_ne (tgt := 40) hx hb d_Ls_hasCut_21 (by decide) (fun c2 => ?_) (fun c2 => ?_)
        · refine lv_iinc (v := nI (k + 1)) (lv' := [(3, .int (nI (k + 1))), (0, .ref (ad 4)), (1, .int x), (2, .int y)]) hx hb d_Ls_hasCut_40 hl (k := 0) rfl (nI_inc _) (by decide) rfl (fun ls hl => ?_)
          refine lv_goto (tgt := 2) hx hb d_Ls_hasCut_43 (by decide) ?_
          exact ih (k + 1) (by omega) (by omega) (by rw [ls_hc, hin]; first | simp [c2, c3] | simp [c2]) ls (lv_sub hl [0, 1, 2, 3] rfl)
        · refine lv_aload_n hx hb d_Ls_hasCut_24 rfl (lv_at hl 1 rfl) ?_
          refine gf_Ls_cuts F hK hP d_Ls_hasCut_25 ?_
          refine lv_iload_n hx hb d_Ls_hasCut_28 rfl (lv_at hl 0 rfl) ?_
          refine ok_aald F hK hP 6 1 ow_6 rfl (j := k) rfl (by omega) (by decide) rfl d_Ls_hasCut_29 ?_
          refine lv_iload_n hx hb d_Ls_hasCut_30 rfl (lv_at hl 3 rfl) ?_
          refine x_Li_factorOf (i := (k + 4)) (by omega) (j := t) ht (by omega) F (tt1 187 rfl rfl) ⟨Nat.le_of_ble_eq_true rfl, Nat.le_of_ble_eq_true rfl⟩ hK hP hl.1 (Nat.le_of_ble_eq_true rfl) ⟨Nat.zero_le _, Nat.zero_le _⟩ d_Ls_hasCut_31 ?_
          refine lv_iconst (v := 1) hx hb d_Ls_hasCut_34 (by decide) ?_
          refine lv_icmp_ne (tgt := 40) hx hb d_Ls_hasCut_35 (by decide) (fun c3 => ?_) (fun c3 => ?_)
          · refine lv_iinc (v := nI (k + 1)) (lv' := [(3, .int (nI (k + 1))), (0, .ref (ad 4)), (1, .int x), (2, .int y)]) hx hb d_Ls_hasCut_40 hl (k := 0) rfl (nI_inc _) (by decide) rfl (fun ls hl => ?_)
            refine lv_goto (tgt := 2) hx hb d_Ls_hasCut_43 (by decide) ?_
            exact ih (k + 1) (by omega) (by omega) (by rw [ls_hc, hin]; first | simp [c2, c3] | simp [c2]) ls (lv_sub hl [0, 1, 2, 3] rfl)
          · refine lv_iconst (v := 1) hx hb d_Ls_hasCut_38 (by decide) ?_
            exact ok_zretR F hr hlk (rfl) (by rw [if_pos (ls_hc_mono (k := k + 1) (by omega) (by simp [ls_hc, c2, c3]))]) d_Ls_hasCut_39
  refine lv_iconst (v := 0) hx hb d_Ls_hasCut_0 (by decide) ?_
  refine lv_istore_n (lv' := [(3, .int 0), (0, .ref (ad 4)), (1, .int x), (2, .int y)]) hx hb d_Ls_hasCut_1 rfl hl (by decide) rfl (fun ls hl => ?_)
  exact lp (u + 1) 0 (by omega) (by omega) (rfl) ls (lv_sub hl [0, 1, 2, 3] rfl)
theorem x_Ls_hasCut {σ : oS} {r : Nat} {u : Nat} (h_r : σ 9 0 0 = nI r) (h_u : σ 10 0 0 = nI u) (hr4 : r ≤ 4) (hu4 : u ≤ 4) {x : Int32} {j : Nat} (hj : x = nI j) (hj9 : j < 5) {y : Int32} {t : Nat} (ht : y = nI t) (ht9 : t < 5) (F : CallFix p m c cc nL s args (cw :: tt) own) (hG : Cond.methodLink own index y_Ls_hasCut ∈ tt) (hR : 1 + 1 ≤ R.frames ∧ 8 + (4 + 11) + 21 ≤ R.locals) (hK : va_K D vwCl (ot cI cL) s) (hP : va_P D vwCl (ow cI cL ad σ) H) (hsz : ls.size = nL) (hW : (rest.map fun v => v.category).sum ≤ 8) (hcs : cells ≤ R.cells ∧ slots ≤ R.slots) (hdg : decode cc pc = .ok (.invokevirtual index, 3)) (kk : W p l e R s m args below meth c H locs cells slots Q (F0 m (pc + 3) ls (.int (if ls_hc σ j t u = true then 1 else 0) :: rest))) : W p l e R s m args below meth c H locs cells slots Q (F0 m pc ls (.int y :: .int x :: .ref (ad 4) :: rest)) :=
  ok_VR (As := [.int x, .int y]) F (c_Ls_hasCut σ h_r h_u hr4 hu4 hj hj9 ht ht9) 2 (tt_V hG i_Ls_hasCut l_Ls_hasCut in9_Ls k_Ls_hasCut) rfl ⟨rfl, rfl⟩ (by decide +kernel) hR hK hP (4) 2 rfl rfl ow_4 rfl hsz rfl hW hcs hdg kk
set_option maxHeartbeats 4000000 in
set_option maxRecDepth 100000 in
theorem c_Ls_clearWeights (σ : oS) {r : Nat} {u : Nat} (h_r : σ 9 0 0 = nI r) (h_u : σ 10 0 0 = nI u) (hr4 : r ≤ 4) (hu4 : u ≤ 4) : ok_MM l y_Ls_clearWeights (Cond.code y_Ls_clearWeights b_Ls_clearWeights 2 none :: tt) { frames := 1, cells := 0, slots := 0, locals := 21 } D vwCl (ot cI cL) (ow cI cL ad σ) (ow cI cL ad (ls_z σ r (r + u))) [.ref (ad 4)] none := by
  refine ok_startM (cc := b_Ls_clearWeights) (own := RLs) (maxL := 2) (ret := none) (by decide +kernel) rfl rfl (Nat.le_of_ble_eq_true rfl) ?_
  intro p e s m below meth c A F hr hlk hA hP hK hD hS ls hl
  have hl : lv_has ls 2 [(0, .ref (ad 4))] := hl
  have hx := F.1
  have hb := F.2.1
  have lp : ∀ (f k : Nat), k ≤ (r + u) → (r + u) - k < f → ∀ (H : Heap) (locs : List Loc), va_P D vwCl (ow cI cL ad (ls_z σ r k)) H → va_D A (ow cI cL ad (ls_z σ r k)) → va_S A s.heap H locs → ∀ ls : Array Slot, lv_has ls 2 [(1, .int (nI k)), (0, .ref (ad 4))] → W p l e { frames := 1, cells := 0, slots := 0, locals := 21 } s m ([.ref (ad 4)] : List Value).toArray below meth c H locs 0 0 (MQ below (ok_qA D vwCl A (ow cI cL ad (ls_z σ r (r + u))) none) ([.ref (ad 4)] : List Value).toArray s 0 0 A) (F0 m 2 ls []) := by
    intro f
    induction f with
    | zero => intro k h1 h2; omega
    | succ f ih =>
      intro k h1 h2 H locs hP hD hS ls hl
      refine lv_iload_n hx hb d_Ls_clearWeights_2 rfl (lv_at hl 0 rfl) ?_
      refine lv_aload_n hx hb d_Ls_clearWeights_3 rfl (lv_at hl 1 rfl) ?_
      refine x_Ls_count F (tt1 158 rfl rfl) ⟨Nat.le_of_ble_eq_true rfl, Nat.le_of_ble_eq_true rfl⟩ hK hP hl.1 (Nat.le_of_ble_eq_true rfl) ⟨Nat.zero_le _, Nat.zero_le _⟩ d_Ls_clearWeights_4 ?_
      refine lv_icmp_ge (tgt := 25) hx hb d_Ls_clearWeights_7 (by decide) (fun c1 => ?_) (fun c1 => ?_)
      · have hkn : (r + u) = k := by
          rw [ls_z_c (by decide), ls_z_c (by decide), ls_cnt h_r h_u, nI_leI (by omega) (by omega)] at c1; omega
        subst hkn
        exact ok_vretM F hr hlk hP hD hS d_Ls_clearWeights_25
      · have hkn : k < (r + u) := by
          rw [ls_z_c (by decide), ls_z_c (by decide), ls_cnt h_r h_u, nI_leI (by omega) (by omega)] at c1; omega
        refine lv_aload_n hx hb d_Ls_clearWeights_10 rfl (lv_at hl 1 rfl) ?_
        refine lv_iload_n hx hb d_Ls_clearWeights_11 rfl (lv_at hl 0 rfl) ?_
        refine x_Ls_at (r := r) (u := u) (by rw [ls_z_c (by decide)]; exact h_r) (by rw [ls_z_c (by decide)]; exact h_u) hr4 hu4 (k := k) rfl (by omega) (by omega) F (tt1 162 rfl rfl) ⟨Nat.le_of_ble_eq_true rfl, Nat.le_of_ble_eq_true rfl⟩ hK hP hl.1 (Nat.le_of_ble_eq_true rfl) ⟨Nat.zero_le _, Nat.zero_le _⟩ d_Ls_clearWeights_12 ?_
        refine lv_iconst (v := 0) hx hb d_Ls_clearWeights_15 (by decide) ?_
        refine x_Li_setWeight (i := (ls_i r k)) (ls_i_lt hr4 hu4 (by omega)) F (tt2 145 rfl rfl) ⟨Nat.le_of_ble_eq_true rfl, Nat.le_of_ble_eq_true rfl⟩ hK hP hD hS hA hl.1 (Nat.le_of_ble_eq_true rfl) ⟨Nat.zero_le _, Nat.zero_le _⟩ d_Ls_clearWeights_16 (fun H locs hP hD hS => ?_)
        refine lv_iinc (v := nI (k + 1)) (lv' := [(1, .int (nI (k + 1))), (0, .ref (ad 4))]) hx hb d_Ls_clearWeights_19 hl (k := 0) rfl (nI_inc _) (by decide) rfl (fun ls hl => ?_)
        refine lv_goto (tgt := 2) hx hb d_Ls_clearWeights_22 (by decide) ?_
        exact ih (k + 1) (by omega) (by omega) H locs hP hD hS ls (lv_sub hl [0, 1] rfl)
  refine lv_iconst (v := 0) hx hb d_Ls_clearWeights_0 (by decide) ?_
  refine lv_istore_n (lv' := [(1, .int 0), (0, .ref (ad 4))]) hx hb d_Ls_clearWeights_1 rfl hl (by decide) rfl (fun ls hl => ?_)
  exact lp ((r + u) + 1) 0 (by omega) (by omega) _ _ hP hD hS ls (lv_sub hl [0, 1] rfl)
theorem x_Ls_clearWeights {σ : oS} {r : Nat} {u : Nat} (h_r : σ 9 0 0 = nI r) (h_u : σ 10 0 0 = nI u) (hr4 : r ≤ 4) (hu4 : u ≤ 4) (F : CallFix p m c cc nL s args (cw :: tt) own) (hG : Cond.methodLink own index y_Ls_clearWeights ∈ tt) (hR : 1 + 1 ≤ R.frames ∧ 8 + (2 + 11) + 21 ≤ R.locals) (hK : va_K D vwCl (ot cI cL) s) (hP : va_P D vwCl (ow cI cL ad σ) H) (hD : va_D A (ow cI cL ad σ)) (hS : va_S A H0 H locs) (hA : ∀ q, H0.size ≤ q → A q) (hsz : ls.size = nL) (hW : (rest.map fun v => v.category).sum ≤ 8) (hcs : cells ≤ R.cells ∧ slots ≤ R.slots) (hdg : decode cc pc = .ok (.invokevirtual index, 3)) (kk : ∀ (H1 : Heap) (locs1 : List Loc), va_P D vwCl (ow cI cL ad (ls_z σ r (r + u))) H1 → va_D A (ow cI cL ad (ls_z σ r (r + u))) → va_S A H0 H1 locs1 → W p l e R s m args below meth c H1 locs1 cells slots Q (F0 m (pc + 3) ls (rest))) : W p l e R s m args below meth c H locs cells slots Q (F0 m pc ls (.ref (ad 4) :: rest)) :=
  ok_VM (As := []) F (c_Ls_clearWeights σ h_r h_u hr4 hu4) 0 (tt_V hG i_Ls_clearWeights l_Ls_clearWeights in9_Ls k_Ls_clearWeights) rfl ⟨rfl, rfl⟩ (by decide +kernel) hR hK hP hD hS hA (4) 2 rfl rfl ow_4 rfl hsz rfl hW hcs hdg kk
set_option maxHeartbeats 4000000 in
set_option maxRecDepth 100000 in
theorem c_Ls_addRow (σ : oS) {r : Nat} {u : Nat} (h_r : σ 9 0 0 = nI r) (h_u : σ 10 0 0 = nI u) (hr4 : r ≤ 4) (hu4 : u ≤ 4) (hr3 : r < 4) {x : Int32} {y : Int32} : ok_MM l y_Ls_addRow (Cond.code y_Ls_addRow b_Ls_addRow 4 (some .int) :: tt) { frames := 2, cells := 0, slots := 0, locals := 42 } D vwCl (ot cI cL) (ow cI cL ad σ) (ow cI cL ad (ls_z (u3 (u3 (u3 σ 4 r 0 x) 5 r 0 y) 9 0 0 (nI (r + 1))) (r + 1) (r + 1 + u))) [.ref (ad 4), .int x, .int y] (some (.int (nI r))) := by
  refine ok_startM (cc := b_Ls_addRow) (own := RLs) (maxL := 4) (ret := (some .int)) (by decide +kernel) rfl rfl (Nat.le_of_ble_eq_true rfl) ?_
  intro p e s m below meth c A F hr hlk hA hP hK hD hS ls hl
  have hl : lv_has ls 4 [(0, .ref (ad 4)), (1, .int x), (2, .int y)] := hl
  have hx := F.1
  have hb := F.2.1
  refine lv_aload_n hx hb d_Ls_addRow_0 rfl (lv_at hl 0 rfl) ?_
  refine gf_Ls_rows F hK hP d_Ls_addRow_1 ?_
  refine lv_aload_n hx hb d_Ls_addRow_4 rfl (lv_at hl 0 rfl) ?_
  refine gf_Ls_rowCount F hK hP d_Ls_addRow_5 ?_
  refine ok_aald F hK hP 5 1 ow_5 rfl (j := r) h_r (by omega) (by decide) rfl d_Ls_addRow_8 ?_
  refine lv_astore_n (lv' := [(3, .ref (ad (4 * r + 14))), (0, .ref (ad 4)), (1, .int x), (2, .int y)]) hx hb d_Ls_addRow_9 rfl hl (by decide) rfl (fun ls hl => ?_)
  refine lv_aload_n hx hb d_Ls_addRow_10 rfl (lv_at hl 0 rfl) ?_
  refine lv_iload_n hx hb d_Ls_addRow_11 rfl (lv_at hl 2 rfl) ?_
  refine x_Li_setKind (i := r) (by omega) F (tt2 133 rfl rfl) ⟨Nat.le_of_ble_eq_true rfl, Nat.le_of_ble_eq_true rfl⟩ hK hP hD hS hA hl.1 (Nat.le_of_ble_eq_true rfl) ⟨Nat.zero_le _, Nat.zero_le _⟩ d_Ls_addRow_12 (fun H locs hP hD hS => ?_)
  refine lv_aload_n hx hb d_Ls_addRow_15 rfl (lv_at hl 0 rfl) ?_
  refine lv_iload_n hx hb d_Ls_addRow_16 rfl (lv_at hl 3 rfl) ?_
  refine x_Li_setRight (i := r) (by omega) F (tt2 137 rfl rfl) ⟨Nat.le_of_ble_eq_true rfl, Nat.le_of_ble_eq_true rfl⟩ hK hP hD hS hA hl.1 (Nat.le_of_ble_eq_true rfl) ⟨Nat.zero_le _, Nat.zero_le _⟩ d_Ls_addRow_17 (fun H locs hP hD hS => ?_)
  refine lv_aload_n hx hb d_Ls_addRow_20 rfl (lv_at hl 1 rfl) ?_
  refine lv_dup hx hb d_Ls_addRow_21 rfl ?_
  refine gf_Ls_rowCount F hK hP d_Ls_addRow_22 ?_
  refine lv_iconst (v := 1) hx hb d_Ls_addRow_25 (by decide) ?_
  refine lv_iadd hx hb d_Ls_addRow_26 ?_
  refine pf_Ls_rowCount F hK hP hD hS d_Ls_addRow_27 (fun H locs hP hD hS => ?_)
  have ew : u3 (u3 (u3 σ 4 r 0 x) 5 r 0 y) 9 0 0 (((u3 (u3 σ 4 r 0 x) 5 r 0 y) 9 0 0) + 1) = u3 (u3 (u3 σ 4 r 0 x) 5 r 0 y) 9 0 0 (nI (r + 1)) := by congr 1; simp [u3_at, h_r, nI_1]
  rw [ew] at hP hD
  clear ew
  refine lv_aload_n hx hb d_Ls_addRow_30 rfl (lv_at hl 1 rfl) ?_
  refine x_Ls_clearWeights (r := (r + 1)) (u := u) (by simp [u3_at]) (by simp [u3_at, h_u]) (by omega) hu4 F (tt2 141 rfl rfl) ⟨Nat.le_of_ble_eq_true rfl, Nat.le_of_ble_eq_true rfl⟩ hK hP hD hS hA hl.1 (Nat.le_of_ble_eq_true rfl) ⟨Nat.zero_le _, Nat.zero_le _⟩ d_Ls_addRow_31 (fun H locs hP hD hS => ?_)
  refine lv_aload_n hx hb d_Ls_addRow_34 rfl (lv_at hl 1 rfl) ?_
  refine gf_Ls_rowCount F hK hP d_Ls_addRow_35 ?_
  refine lv_iconst (v := 1) hx hb d_Ls_addRow_38 (by decide) ?_
  refine lv_isub hx hb d_Ls_addRow_39 ?_
  exact ok_iretM F hr hlk hP hD hS (by rw [ls_z_c (by decide), u3_s]; exact nI_pred r) d_Ls_addRow_40
theorem x_Ls_addRow {σ : oS} {r : Nat} {u : Nat} (h_r : σ 9 0 0 = nI r) (h_u : σ 10 0 0 = nI u) (hr4 : r ≤ 4) (hu4 : u ≤ 4) (hr3 : r < 4) {x : Int32} {y : Int32} (F : CallFix p m c cc nL s args (cw :: tt) own) (hG : Cond.methodLink own index y_Ls_addRow ∈ tt) (hR : 2 + 1 ≤ R.frames ∧ 8 + (4 + 11) + 42 ≤ R.locals) (hK : va_K D vwCl (ot cI cL) s) (hP : va_P D vwCl (ow cI cL ad σ) H) (hD : va_D A (ow cI cL ad σ)) (hS : va_S A H0 H locs) (hA : ∀ q, H0.size ≤ q → A q) (hsz : ls.size = nL) (hW : (rest.map fun v => v.category).sum ≤ 8) (hcs : cells ≤ R.cells ∧ slots ≤ R.slots) (hdg : decode cc pc = .ok (.invokevirtual index, 3)) (kk : ∀ (H1 : Heap) (locs1 : List Loc), va_P D vwCl (ow cI cL ad (ls_z (u3 (u3 (u3 σ 4 r 0 x) 5 r 0 y) 9 0 0 (nI (r + 1))) (r + 1) (r + 1 + u))) H1 → va_D A (ow cI cL ad (ls_z (u3 (u3 (u3 σ 4 r 0 x) 5 r 0 y) 9 0 0 (nI (r + 1))) (r + 1) (r + 1 + u))) → va_S A H0 H1 locs1 → W p l e R s m args below meth c H1 locs1 cells slots Q (F0 m (pc + 3) ls (.int (nI r) :: rest))) : W p l e R s m args below meth c H locs cells slots Q (F0 m pc ls (.int y :: .int x :: .ref (ad 4) :: rest)) :=
  ok_VM (As := [.int x, .int y]) F (c_Ls_addRow σ h_r h_u hr4 hu4 hr3) 2 (tt_V hG i_Ls_addRow l_Ls_addRow in9_Ls k_Ls_addRow) rfl ⟨rfl, rfl⟩ (by decide +kernel) hR hK hP hD hS hA (4) 2 rfl rfl ow_4 rfl hsz rfl hW hcs hdg kk
set_option maxHeartbeats 4000000 in
set_option maxRecDepth 100000 in
theorem c_Ls_addCut (σ : oS) {r : Nat} {u : Nat} (h_r : σ 9 0 0 = nI r) (h_u : σ 10 0 0 = nI u) (hr4 : r ≤ 4) (hu4 : u ≤ 4) (hu3 : u < 4) {x : Int32} {j : Nat} (hj : x = nI j) (hj9 : j < 5) {y : Int32} {t : Nat} (ht : y = nI t) (ht9 : t < 5) {v : Int32} : ok_MM l y_Ls_addCut (Cond.code y_Ls_addCut b_Ls_addCut 5 (some .int) :: tt) { frames := 2, cells := 0, slots := 0, locals := 42 } D vwCl (ot cI cL) (ow cI cL ad σ) (ow cI cL ad (ls_z (u3 (u3 (u3 (u3 σ 5 (u + 4) 0 v) 3 (u + 4) j 1) 3 (u + 4) t 1) 10 0 0 (nI (u + 1))) r (r + (u + 1)))) [.ref (ad 4), .int x, .int y, .int v] (some (.int (nI (u + 1)))) := by
  refine ok_startM (cc := b_Ls_addCut) (own := RLs) (maxL := 5) (ret := (some .int)) (by decide +kernel) rfl rfl (Nat.le_of_ble_eq_true rfl) ?_
  intro p e s m below meth c A F hr hlk hA hP hK hD hS ls hl
  have hl : lv_has ls 5 [(0, .ref (ad 4)), (1, .int x), (2, .int y), (3, .int v)] := hl
  have hx := F.1
  have hb := F.2.1
  refine lv_aload_n hx hb d_Ls_addCut_0 rfl (lv_at hl 0 rfl) ?_
  refine gf_Ls_cuts F hK hP d_Ls_addCut_1 ?_
  refine lv_aload_n hx hb d_Ls_addCut_4 rfl (lv_at hl 0 rfl) ?_
  refine gf_Ls_cutCount F hK hP d_Ls_addCut_5 ?_
  refine ok_aald F hK hP 6 1 ow_6 rfl (j := u) h_u (by omega) (by decide) rfl d_Ls_addCut_8 ?_
  refine lv_astore (lv' := [(4, .ref (ad (4 * (u + 4) + 14))), (0, .ref (ad 4)), (1, .int x), (2, .int y), (3, .int v)]) hx hb d_Ls_addCut_9 hl (by decide) rfl (fun ls hl => ?_)
  refine lv_aload hx hb d_Ls_addCut_11 (lv_at hl 0 rfl) ?_
  refine lv_iload_n hx hb d_Ls_addCut_13 rfl (lv_at hl 4 rfl) ?_
  refine x_Li_setRight (i := (u + 4)) (by omega) F (tt2 137 rfl rfl) ⟨Nat.le_of_ble_eq_true rfl, Nat.le_of_ble_eq_true rfl⟩ hK hP hD hS hA hl.1 (Nat.le_of_ble_eq_true rfl) ⟨Nat.zero_le _, Nat.zero_le _⟩ d_Ls_addCut_14 (fun H locs hP hD hS => ?_)
  refine lv_aload hx hb d_Ls_addCut_17 (lv_at hl 0 rfl) ?_
  refine lv_iload_n hx hb d_Ls_addCut_19 rfl (lv_at hl 2 rfl) ?_
  refine lv_iconst (v := 1) hx hb d_Ls_addCut_20 (by decide) ?_
  refine x_Li_setFactor (i := (u + 4)) (by omega) (j := j) hj (by omega) F (tt2 222 rfl rfl) ⟨Nat.le_of_ble_eq_true rfl, Nat.le_of_ble_eq_true rfl⟩ hK hP hD hS hA hl.1 (Nat.le_of_ble_eq_true rfl) ⟨Nat.zero_le _, Nat.zero_le _⟩ d_Ls_addCut_21 (fun H locs hP hD hS => ?_)
  refine lv_aload hx hb d_Ls_addCut_24 (lv_at hl 0 rfl) ?_
  refine lv_iload_n hx hb d_Ls_addCut_26 rfl (lv_at hl 3 rfl) ?_
  refine lv_iconst (v := 1) hx hb d_Ls_addCut_27 (by decide) ?_
  refine x_Li_setFactor (i := (u + 4)) (by omega) (j := t) ht (by omega) F (tt2 222 rfl rfl) ⟨Nat.le_of_ble_eq_true rfl, Nat.le_of_ble_eq_true rfl⟩ hK hP hD hS hA hl.1 (Nat.le_of_ble_eq_true rfl) ⟨Nat.zero_le _, Nat.zero_le _⟩ d_Ls_addCut_28 (fun H locs hP hD hS => ?_)
  refine lv_aload_n hx hb d_Ls_addCut_31 rfl (lv_at hl 1 rfl) ?_
  refine lv_dup hx hb d_Ls_addCut_32 rfl ?_
  refine gf_Ls_cutCount F hK hP d_Ls_addCut_33 ?_
  refine lv_iconst (v := 1) hx hb d_Ls_addCut_36 (by decide) ?_
  refine lv_iadd hx hb d_Ls_addCut_37 ?_
  refine pf_Ls_cutCount F hK hP hD hS d_Ls_addCut_38 (fun H locs hP hD hS => ?_)
  have ew : u3 (u3 (u3 (u3 σ 5 (u + 4) 0 v) 3 (u + 4) j 1) 3 (u + 4) t 1) 10 0 0 (((u3 (u3 (u3 σ 5 (u + 4) 0 v) 3 (u + 4) j 1) 3 (u + 4) t 1) 10 0 0) + 1) = u3 (u3 (u3 (u3 σ 5 (u + 4) 0 v) 3 (u + 4) j 1) 3 (u + 4) t 1) 10 0 0 (nI (u + 1)) := by congr 1; simp [u3_at, h_u, nI_1]
  rw [ew] at hP hD
  clear ew
  refine lv_aload_n hx hb d_Ls_addCut_41 rfl (lv_at hl 1 rfl) ?_
  refine x_Ls_clearWeights (r := r) (u := (u + 1)) (by simp [u3_at, h_r]) (by simp [u3_at]) hr4 (by omega) F (tt2 141 rfl rfl) ⟨Nat.le_of_ble_eq_true rfl, Nat.le_of_ble_eq_true rfl⟩ hK hP hD hS hA hl.1 (Nat.le_of_ble_eq_true rfl) ⟨Nat.zero_le _, Nat.zero_le _⟩ d_Ls_addCut_42 (fun H locs hP hD hS => ?_)
  refine lv_aload_n hx hb d_Ls_addCut_45 rfl (lv_at hl 1 rfl) ?_
  refine gf_Ls_cutCount F hK hP d_Ls_addCut_46 ?_
  exact ok_iretM F hr hlk hP hD hS (by rw [ls_z_c (by decide), u3_s]) d_Ls_addCut_49
theorem x_Ls_addCut {σ : oS} {r : Nat} {u : Nat} (h_r : σ 9 0 0 = nI r) (h_u : σ 10 0 0 = nI u) (hr4 : r ≤ 4) (hu4 : u ≤ 4) (hu3 : u < 4) {x : Int32} {j : Nat} (hj : x = nI j) (hj9 : j < 5) {y : Int32} {t : Nat} (ht : y = nI t) (ht9 : t < 5) {v : Int32} (F : CallFix p m c cc nL s args (cw :: tt) own) (hG : Cond.methodLink own index y_Ls_addCut ∈ tt) (hR : 2 + 1 ≤ R.frames ∧ 8 + (5 + 11) + 42 ≤ R.locals) (hK : va_K D vwCl (ot cI cL) s) (hP : va_P D vwCl (ow cI cL ad σ) H) (hD : va_D A (ow cI cL ad σ)) (hS : va_S A H0 H locs) (hA : ∀ q, H0.size ≤ q → A q) (hsz : ls.size = nL) (hW : (rest.map fun v => v.category).sum ≤ 8) (hcs : cells ≤ R.cells ∧ slots ≤ R.slots) (hdg : decode cc pc = .ok (.invokevirtual index, 3)) (kk : ∀ (H1 : Heap) (locs1 : List Loc), va_P D vwCl (ow cI cL ad (ls_z (u3 (u3 (u3 (u3 σ 5 (u + 4) 0 v) 3 (u + 4) j 1) 3 (u + 4) t 1) 10 0 0 (nI (u + 1))) r (r + (u + 1)))) H1 → va_D A (ow cI cL ad (ls_z (u3 (u3 (u3 (u3 σ 5 (u + 4) 0 v) 3 (u + 4) j 1) 3 (u + 4) t 1) 10 0 0 (nI (u + 1))) r (r + (u + 1)))) → va_S A H0 H1 locs1 → W p l e R s m args below meth c H1 locs1 cells slots Q (F0 m (pc + 3) ls (.int (nI (u + 1)) :: rest))) : W p l e R s m args below meth c H locs cells slots Q (F0 m pc ls (.int v :: .int y :: .int x :: .ref (ad 4) :: rest)) :=
  ok_VM (As := [.int x, .int y, .int v]) F (c_Ls_addCut σ h_r h_u hr4 hu4 hu3 hj hj9 ht ht9) 3 (tt_V hG i_Ls_addCut l_Ls_addCut in9_Ls k_Ls_addCut) rfl ⟨rfl, rfl⟩ (by decide +kernel) hR hK hP hD hS hA (4) 2 rfl rfl ow_4 rfl hsz rfl hW hcs hdg kk
set_option maxHeartbeats 4000000 in
set_option maxRecDepth 100000 in
theorem c_Ls_weightedRights (σ : oS) {r : Nat} {u : Nat} (h_r : σ 9 0 0 = nI r) (h_u : σ 10 0 0 = nI u) (hr4 : r ≤ 4) (hu4 : u ≤ 4) : ok_MR l y_Ls_weightedRights (Cond.code y_Ls_weightedRights b_Ls_weightedRights 4 (some .long) :: tt) { frames := 1, cells := 0, slots := 0, locals := 21 } D vwCl (ot cI cL) (ow cI cL ad σ) [.ref (ad 4)] (some (.long (ls_wr σ r (r + u)))) := by
  refine ok_startR (cc := b_Ls_weightedRights) (own := RLs) (maxL := 4) (ret := (some .long)) (by decide +kernel) rfl rfl (Nat.le_of_ble_eq_true rfl) ?_
  intro p e s m below meth c F hr hlk hP hK ls hl
  have hl : lv_has ls 4 [(0, .ref (ad 4))] := hl
  have hx := F.1
  have hb := F.2.1
  have lp : ∀ (f k : Nat), k ≤ (r + u) → (r + u) - k < f → ∀ ls : Array Slot, lv_has ls 4 [(3, .int (nI k)), (1, .long (ls_wr σ r k)), (0, .ref (ad 4))] → W p l e { frames := 1, cells := 0, slots := 0, locals := 21 } s m ([.ref (ad 4)] : List Value).toArray below meth c s.heap [] 0 0 (MQ below (ok_R (some (.long (ls_wr σ r (r + u))))) ([.ref (ad 4)] : List Value).toArray s 0 0 (fun _ => False)) (F0 m 4 ls []) := by
    intro f
    induction f with
    | zero => intro k h1 h2; omega
    | succ f ih =>
      intro k h1 h2 ls hl
      refine lv_iload_n hx hb d_Ls_weightedRights_4 rfl (lv_at hl 0 rfl) ?_
      refine lv_aload_n hx hb d_Ls_weightedRights_5 rfl (lv_at hl 2 rfl) ?_
      refine x_Ls_count F (tt1 158 rfl rfl) ⟨Nat.le_of_ble_eq_true rfl, Nat.le_of_ble_eq_true rfl⟩ hK hP hl.1 (Nat.le_of_ble_eq_true rfl) ⟨Nat.zero_le _, Nat.zero_le _⟩ d_Ls_weightedRights_6 ?_
      refine lv_icmp_ge (tgt := 40) hx hb d_Ls_weightedRights_9 (by decide) (fun c1 => ?_) (fun c1 => ?_)
      · have hkn : (r + u) = k := by
          rw [ls_cnt h_r h_u, nI_leI (by omega) (by omega)] at c1; omega
        subst hkn
        refine lv_lload_n hx hb d_Ls_weightedRights_40 rfl (lv_at hl 1 rfl) ?_
        exact ok_lretR F hr hlk (rfl) d_Ls_weightedRights_41
      · have hkn : k < (r + u) := by
          rw [ls_cnt h_r h_u, nI_leI (by omega) (by omega)] at c1; omega
        refine lv_lload_n hx hb d_Ls_weightedRights_12 rfl (lv_at hl 1 rfl) ?_
        refine lv_aload_n hx hb d_Ls_weightedRights_13 rfl (lv_at hl 2 rfl) ?_
        refine lv_iload_n hx hb d_Ls_weightedRights_14 rfl (lv_at hl 0 rfl) ?_
        refine x_Ls_at (r := r) (u := u) h_r h_u hr4 hu4 (k := k) rfl (by omega) (by omega) F (tt1 162 rfl rfl) ⟨Nat.le_of_ble_eq_true rfl, Nat.le_of_ble_eq_true rfl⟩ hK hP hl.1 (Nat.le_of_ble_eq_true rfl) ⟨Nat.zero_le _, Nat.zero_le _⟩ d_Ls_weightedRights_15 ?_
        refine x_Li_weight (i := (ls_i r k)) (ls_i_lt hr4 hu4 (by omega)) F (tt1 166 rfl rfl) ⟨Nat.le_of_ble_eq_true rfl, Nat.le_of_ble_eq_true rfl⟩ hK hP hl.1 (Nat.le_of_ble_eq_true rfl) ⟨Nat.zero_le _, Nat.zero_le _⟩ d_Ls_weightedRights_18 ?_
        refine lv_i2l hx hb d_Ls_weightedRights_21 rfl ?_
        refine lv_aload_n hx hb d_Ls_weightedRights_22 rfl (lv_at hl 2 rfl) ?_
        refine lv_iload_n hx hb d_Ls_weightedRights_23 rfl (lv_at hl 0 rfl) ?_
        refine x_Ls_at (r := r) (u := u) h_r h_u hr4 hu4 (k := k) rfl (by omega) (by omega) F (tt1 162 rfl rfl) ⟨Nat.le_of_ble_eq_true rfl, Nat.le_of_ble_eq_true rfl⟩ hK hP hl.1 (Nat.le_of_ble_eq_true rfl) ⟨Nat.zero_le _, Nat.zero_le _⟩ d_Ls_weightedRights_24 ?_
        refine x_Li_rightSide (i := (ls_i r k)) (ls_i_lt hr4 hu4 (by omega)) F (tt1 170 rfl rfl) ⟨Nat.le_of_ble_eq_true rfl, Nat.le_of_ble_eq_true rfl⟩ hK hP hl.1 (Nat.le_of_ble_eq_true rfl) ⟨Nat.zero_le _, Nat.zero_le _⟩ d_Ls_weightedRights_27 ?_
        refine lv_i2l hx hb d_Ls_weightedRights_30 rfl ?_
        refine lv_lmul hx hb d_Ls_weightedRights_31 ?_
        refine lv_ladd hx hb d_Ls_weightedRights_32 ?_
        refine lv_lstore_n (lv' := [(1, .long ((ls_wr σ r k) + ((Int32.toInt64 (σ 6 (ls_i r k) 0)) * (Int32.toInt64 (σ 5 (ls_i r k) 0))))), (3, .int (nI k)), (0, .ref (ad 4))]) hx hb d_Ls_weightedRights_33 rfl hl (by decide) rfl (fun ls hl => ?_)
        refine lv_iinc (v := nI (k + 1)) (lv' := [(3, .int (nI (k + 1))), (1, .long ((ls_wr σ r k) + ((Int32.toInt64 (σ 6 (ls_i r k) 0)) * (Int32.toInt64 (σ 5 (ls_i r k) 0))))), (0, .ref (ad 4))]) hx hb d_Ls_weightedRights_34 hl (k := 1) rfl (nI_inc _) (by decide) rfl (fun ls hl => ?_)
        refine lv_goto (tgt := 4) hx hb d_Ls_weightedRights_37 (by decide) ?_
        exact ih (k + 1) (by omega) (by omega) ls (lv_sub hl [0, 1, 2] rfl)
  refine lv_lconst (v := 0) hx hb d_Ls_weightedRights_0 (by decide) ?_
  refine lv_lstore_n (lv' := [(1, .long 0), (0, .ref (ad 4))]) hx hb d_Ls_weightedRights_1 rfl hl (by decide) rfl (fun ls hl => ?_)
  refine lv_iconst (v := 0) hx hb d_Ls_weightedRights_2 (by decide) ?_
  refine lv_istore_n (lv' := [(3, .int 0), (1, .long 0), (0, .ref (ad 4))]) hx hb d_Ls_weightedRights_3 rfl hl (by decide) rfl (fun ls hl => ?_)
  exact lp ((r + u) + 1) 0 (by omega) (by omega) ls (lv_sub hl [0, 1, 2] rfl)
theorem x_Ls_weightedRights {σ : oS} {r : Nat} {u : Nat} (h_r : σ 9 0 0 = nI r) (h_u : σ 10 0 0 = nI u) (hr4 : r ≤ 4) (hu4 : u ≤ 4) (F : CallFix p m c cc nL s args (cw :: tt) own) (hG : Cond.methodLink own index y_Ls_weightedRights ∈ tt) (hR : 1 + 1 ≤ R.frames ∧ 8 + (4 + 11) + 21 ≤ R.locals) (hK : va_K D vwCl (ot cI cL) s) (hP : va_P D vwCl (ow cI cL ad σ) H) (hsz : ls.size = nL) (hW : (rest.map fun v => v.category).sum ≤ 8) (hcs : cells ≤ R.cells ∧ slots ≤ R.slots) (hdg : decode cc pc = .ok (.invokevirtual index, 3)) (kk : W p l e R s m args below meth c H locs cells slots Q (F0 m (pc + 3) ls (.long (ls_wr σ r (r + u)) :: rest))) : W p l e R s m args below meth c H locs cells slots Q (F0 m pc ls (.ref (ad 4) :: rest)) :=
  ok_VR (As := []) F (c_Ls_weightedRights σ h_r h_u hr4 hu4) 0 (tt_V hG i_Ls_weightedRights l_Ls_weightedRights in9_Ls k_Ls_weightedRights) rfl ⟨rfl, rfl⟩ (by decide +kernel) hR hK hP (4) 2 rfl rfl ow_4 rfl hsz rfl hW hcs hdg kk
set_option maxHeartbeats 4000000 in
set_option maxRecDepth 100000 in
theorem c_Ls_weightedFactors (σ : oS) {r : Nat} {u : Nat} (h_r : σ 9 0 0 = nI r) (h_u : σ 10 0 0 = nI u) (hr4 : r ≤ 4) (hu4 : u ≤ 4) {x : Int32} {j : Nat} (hj : x = nI j) (hj9 : j < 5) : ok_MR l y_Ls_weightedFactors (Cond.code y_Ls_weightedFactors b_Ls_weightedFactors 5 (some .long) :: tt) { frames := 1, cells := 0, slots := 0, locals := 21 } D vwCl (ot cI cL) (ow cI cL ad σ) [.ref (ad 4), .int x] (some (.long (ls_wf σ r j (r + u)))) := by
  refine ok_startR (cc := b_Ls_weightedFactors) (own := RLs) (maxL := 5) (ret := (some .long)) (by decide +kernel) rfl rfl (Nat.le_of_ble_eq_true rfl) ?_
  intro p e s m below meth c F hr hlk hP hK ls hl
  have hl : lv_has ls 5 [(0, .ref (ad 4)), (1, .int x)] := hl
  have hx := F.1
  have hb := F.2.1
  have lp : ∀ (f k : Nat), k ≤ (r + u) → (r + u) - k < f → ∀ ls : Array Slot, lv_has ls 5 [(4, .int (nI k)), (2, .long (ls_wf σ r j k)), (0, .ref (ad 4)), (1, .int x)] → W p l e { frames := 1, cells := 0, slots := 0, locals := 21 } s m ([.ref (ad 4), .int x] : List Value).toArray below meth c s.heap [] 0 0 (MQ below (ok_R (some (.long (ls_wf σ r j (r + u))))) ([.ref (ad 4), .int x] : List Value).toArray s 0 0 (fun _ => False)) (F0 m 5 ls []) := by
    intro f
    induction f with
    | zero => intro k h1 h2; omega
    | succ f ih =>
      intro k h1 h2 ls hl
      refine lv_iload hx hb d_Ls_weightedFactors_5 (lv_at hl 0 rfl) ?_
      refine lv_aload_n hx hb d_Ls_weightedFactors_7 rfl (lv_at hl 2 rfl) ?_
      refine x_Ls_count F (tt1 158 rfl rfl) ⟨Nat.le_of_ble_eq_true rfl, Nat.le_of_ble_eq_true rfl⟩ hK hP hl.1 (Nat.le_of_ble_eq_true rfl) ⟨Nat.zero_le _, Nat.zero_le _⟩ d_Ls_weightedFactors_8 ?_
      refine lv_icmp_ge (tgt := 45) hx hb d_Ls_weightedFactors_11 (by decide) (fun c1 => ?_) (fun c1 => ?_)
      · have hkn : (r + u) = k := by
          rw [ls_cnt h_r h_u, nI_leI (by omega) (by omega)] at c1; omega
        subst hkn
        refine lv_lload_n hx hb d_Ls_weightedFactors_45 rfl (lv_at hl 1 rfl) ?_
        exact ok_lretR F hr hlk (rfl) d_Ls_weightedFactors_46
      · have hkn : k < (r + u) := by
          rw [ls_cnt h_r h_u, nI_leI (by omega) (by omega)] at c1; omega
        refine lv_lload_n hx hb d_Ls_weightedFactors_14 rfl (lv_at hl 1 rfl) ?_
        refine lv_aload_n hx hb d_Ls_weightedFactors_15 rfl (lv_at hl 2 rfl) ?_
        refine lv_iload hx hb d_Ls_weightedFactors_16 (lv_at hl 0 rfl) ?_
        refine x_Ls_at (r := r) (u := u) h_r h_u hr4 hu4 (k := k) rfl (by omega) (by omega) F (tt1 162 rfl rfl) ⟨Nat.le_of_ble_eq_true rfl, Nat.le_of_ble_eq_true rfl⟩ hK hP hl.1 (Nat.le_of_ble_eq_true rfl) ⟨Nat.zero_le _, Nat.zero_le _⟩ d_Ls_weightedFactors_18 ?_
        refine x_Li_weight (i := (ls_i r k)) (ls_i_lt hr4 hu4 (by omega)) F (tt1 166 rfl rfl) ⟨Nat.le_of_ble_eq_true rfl, Nat.le_of_ble_eq_true rfl⟩ hK hP hl.1 (Nat.le_of_ble_eq_true rfl) ⟨Nat.zero_le _, Nat.zero_le _⟩ d_Ls_weightedFactors_21 ?_
        refine lv_i2l hx hb d_Ls_weightedFactors_24 rfl ?_
        refine lv_aload_n hx hb d_Ls_weightedFactors_25 rfl (lv_at hl 2 rfl) ?_
        refine lv_iload hx hb d_Ls_weightedFactors_26 (lv_at hl 0 rfl) ?_
        refine x_Ls_at (r := r) (u := u) h_r h_u hr4 hu4 (k := k) rfl (by omega) (by omega) F (tt1 162 rfl rfl) ⟨Nat.le_of_ble_eq_true rfl, Nat.le_of_ble_eq_true rfl⟩ hK hP hl.1 (Nat.le_of_ble_eq_true rfl) ⟨Nat.zero_le _, Nat.zero_le _⟩ d_Ls_weightedFactors_28 ?_
        refine lv_iload_n hx hb d_Ls_weightedFactors_31 rfl (lv_at hl 3 rfl) ?_
        refine x_Li_factorOf (i := (ls_i r k)) (ls_i_lt hr4 hu4 (by omega)) (j := j) hj (by omega) F (tt1 187 rfl rfl) ⟨Nat.le_of_ble_eq_true rfl, Nat.le_of_ble_eq_true rfl⟩ hK hP hl.1 (Nat.le_of_ble_eq_true rfl) ⟨Nat.zero_le _, Nat.zero_le _⟩ d_Ls_weightedFactors_32 ?_
        refine lv_i2l hx hb d_Ls_weightedFactors_35 rfl ?_
        refine lv_lmul hx hb d_Ls_weightedFactors_36 ?_
        refine lv_ladd hx hb d_Ls_weightedFactors_37 ?_
        refine lv_lstore_n (lv' := [(2, .long ((ls_wf σ r j k) + ((Int32.toInt64 (σ 6 (ls_i r k) 0)) * (Int32.toInt64 (σ 3 (ls_i r k) j))))), (4, .int (nI k)), (0, .ref (ad 4)), (1, .int x)]) hx hb d_Ls_weightedFactors_38 rfl hl (by decide) rfl (fun ls hl => ?_)
        refine lv_iinc (v := nI (k + 1)) (lv' := [(4, .int (nI (k + 1))), (2, .long ((ls_wf σ r j k) + ((Int32.toInt64 (σ 6 (ls_i r k) 0)) * (Int32.toInt64 (σ 3 (ls_i r k) j))))), (0, .ref (ad 4)), (1, .int x)]) hx hb d_Ls_weightedFactors_39 hl (k := 1) rfl (nI_inc _) (by decide) rfl (fun ls hl => ?_)
        refine lv_goto (tgt := 5) hx hb d_Ls_weightedFactors_42 (by decide) ?_
        exact ih (k + 1) (by omega) (by omega) ls (lv_sub hl [0, 1, 2, 3] rfl)
  refine lv_lconst (v := 0) hx hb d_Ls_weightedFactors_0 (by decide) ?_
  refine lv_lstore_n (lv' := [(2, .long 0), (0, .ref (ad 4)), (1, .int x)]) hx hb d_Ls_weightedFactors_1 rfl hl (by decide) rfl (fun ls hl => ?_)
  refine lv_iconst (v := 0) hx hb d_Ls_weightedFactors_2 (by decide) ?_
  refine lv_istore (lv' := [(4, .int 0), (2, .long 0), (0, .ref (ad 4)), (1, .int x)]) hx hb d_Ls_weightedFactors_3 hl (by decide) rfl (fun ls hl => ?_)
  exact lp ((r + u) + 1) 0 (by omega) (by omega) ls (lv_sub hl [0, 1, 2, 3] rfl)
theorem x_Ls_weightedFactors {σ : oS} {r : Nat} {u : Nat} (h_r : σ 9 0 0 = nI r) (h_u : σ 10 0 0 = nI u) (hr4 : r ≤ 4) (hu4 : u ≤ 4) {x : Int32} {j : Nat} (hj : x = nI j) (hj9 : j < 5) (F : CallFix p m c cc nL s args (cw :: tt) own) (hG : Cond.methodLink own index y_Ls_weightedFactors ∈ tt) (hR : 1 + 1 ≤ R.frames ∧ 8 + (5 + 11) + 21 ≤ R.locals) (hK : va_K D vwCl (ot cI cL) s) (hP : va_P D vwCl (ow cI cL ad σ) H) (hsz : ls.size = nL) (hW : (rest.map fun v => v.category).sum ≤ 8) (hcs : cells ≤ R.cells ∧ slots ≤ R.slots) (hdg : decode cc pc = .ok (.invokevirtual index, 3)) (kk : W p l e R s m args below meth c H locs cells slots Q (F0 m (pc + 3) ls (.long (ls_wf σ r j (r + u)) :: rest))) : W p l e R s m args below meth c H locs cells slots Q (F0 m pc ls (.int x :: .ref (ad 4) :: rest)) :=
  ok_VR (As := [.int x]) F (c_Ls_weightedFactors σ h_r h_u hr4 hu4 hj hj9) 1 (tt_V hG i_Ls_weightedFactors l_Ls_weightedFactors in9_Ls k_Ls_weightedFactors) rfl ⟨rfl, rfl⟩ (by decide +kernel) hR hK hP (4) 2 rfl rfl ow_4 rfl hsz rfl hW hcs hdg kk
set_option maxHeartbeats 4000000 in
set_option maxRecDepth 100000 in
theorem c_Ls_holdWithoutColumns (σ : oS) {r : Nat} {u : Nat} (h_r : σ 9 0 0 = nI r) (h_u : σ 10 0 0 = nI u) (hr4 : r ≤ 4) (hu4 : u ≤ 4) : ok_MR l y_Ls_holdWithoutColumns (Cond.code y_Ls_holdWithoutColumns b_Ls_holdWithoutColumns 2 (some .boolean) :: tt) { frames := 1, cells := 0, slots := 0, locals := 21 } D vwCl (ot cI cL) (ow cI cL ad σ) [.ref (ad 4)] (some (.int (if ls_0 σ r (r + u) = true then 1 else 0))) := by
  refine ok_startR (cc := b_Ls_holdWithoutColumns) (own := RLs) (maxL := 2) (ret := (some .boolean)) (by decide +kernel) rfl rfl (Nat.le_of_ble_eq_true rfl) ?_
  intro p e s m below meth c F hr hlk hP hK ls hl
  have hl : lv_has ls 2 [(0, .ref (ad 4))] := hl
  have hx := F.1
  have hb := F.2.1
  have lp : ∀ (f k : Nat), k ≤ (r + u) → (r + u) - k < f → ls_0 σ r k = true → ∀ ls : Array Slot, lv_has ls 2 [(1, .int (nI k)), (0, .ref (ad 4))] → W p l e { frames := 1, cells := 0, slots := 0, locals := 21 } s m ([.ref (ad 4)] : List Value).toArray below meth c s.heap [] 0 0 (MQ below (ok_R (some (.int (if ls_0 σ r (r + u) = true then 1 else 0)))) ([.ref (ad 4)] : List Value).toArray s 0 0 (fun _ => False)) (F0 m 2 ls []) := by
    intro f
    induction f with
    | zero => intro k h1 h2; omega
    | succ f ih =>
      intro k h1 h2 hin ls hl
      refine lv_iload_n hx hb d_Ls_holdWithoutColumns_2 rfl (lv_at hl 0 rfl) ?_
      refine lv_aload_n hx hb d_Ls_holdWithoutColumns_3 rfl (lv_at hl 1 rfl) ?_
      refine x_Ls_count F (tt1 158 rfl rfl) ⟨Nat.le_of_ble_eq_true rfl, Nat.le_of_ble_eq_true rfl⟩ hK hP hl.1 (Nat.le_of_ble_eq_true rfl) ⟨Nat.zero_le _, Nat.zero_le _⟩ d_Ls_holdWithoutColumns_4 ?_
      refine lv_icmp_ge (tgt := 30) hx hb d_Ls_holdWithoutColumns_7 (by decide) (fun c1 => ?_) (fun c1 => ?_)
      · have hkn : (r + u) = k := by
          rw [ls_cnt h_r h_u, nI_leI (by omega) (by omega)] at c1; omega
        subst hkn
        refine lv_iconst (v := 1) hx hb d_Ls_holdWithoutColumns_30 (by decide) ?_
        exact ok_zretR F hr hlk (rfl) (by rw [if_pos hin]) d_Ls_holdWithoutColumns_31
      · have hkn : k < (r + u) := by
          rw [ls_cnt h_r h_u, nI_leI (by omega) (by omega)] at c1; omega
        refine lv_aload_n hx hb d_Ls_holdWithoutColumns_10 rfl (lv_at hl 1 rfl) ?_
        refine lv_iload_n hx hb d_Ls_holdWithoutColumns_11 rfl (lv_at hl 0 rfl) ?_
        refine x_Ls_at (r := r) (u := u) h_r h_u hr4 hu4 (k := k) rfl (by omega) (by omega) F (tt1 162 rfl rfl) ⟨Nat.le_of_ble_eq_true rfl, Nat.le_of_ble_eq_true rfl⟩ hK hP hl.1 (Nat.le_of_ble_eq_true rfl) ⟨Nat.zero_le _, Nat.zero_le _⟩ d_Ls_holdWithoutColumns_12 ?_
        refine lv_iconst (v := 0) hx hb d_Ls_holdWithoutColumns_15 (by decide) ?_
        refine x_Li_holds (i := (ls_i r k)) (ls_i_lt hr4 hu4 (by omega)) F (tt3 4 rfl rfl) ⟨Nat.le_of_ble_eq_true rfl, Nat.le_of_ble_eq_true rfl⟩ hK hP hl.1 (Nat.le_of_ble_eq_true rfl) ⟨Nat.zero_le _, Nat.zero_le _⟩ d_Ls_holdWithoutColumns_16 ?_
        refine lv_if_ne (tgt := 24) hx hb d_Ls_holdWithoutColumns_19 (by decide) (fun c2 => ?_) (fun c2 => ?_)
        · refine lv_iinc (v := nI (k + 1)) (lv' := [(1, .int (nI (k + 1))), (0, .ref (ad 4))]) hx hb d_Ls_holdWithoutColumns_24 hl (k := 0) rfl (nI_inc _) (by decide) rfl (fun ls hl => ?_)
          refine lv_goto (tgt := 2) hx hb d_Ls_holdWithoutColumns_27 (by decide) ?_
          exact ih (k + 1) (by omega) (by omega) (by rw [ls_0, hin, li_h_1 c2]; rfl) ls (lv_sub hl [0, 1] rfl)
        · refine lv_iconst (v := 0) hx hb d_Ls_holdWithoutColumns_22 (by decide) ?_
          exact ok_zretR F hr hlk (rfl) (by rw [if_neg (by rw [ls_0_mono (k := k + 1) (by omega) (by simp [ls_0, c2])]; decide)]) d_Ls_holdWithoutColumns_23
  refine lv_iconst (v := 0) hx hb d_Ls_holdWithoutColumns_0 (by decide) ?_
  refine lv_istore_n (lv' := [(1, .int 0), (0, .ref (ad 4))]) hx hb d_Ls_holdWithoutColumns_1 rfl hl (by decide) rfl (fun ls hl => ?_)
  exact lp ((r + u) + 1) 0 (by omega) (by omega) (rfl) ls (lv_sub hl [0, 1] rfl)
theorem x_Ls_holdWithoutColumns {σ : oS} {r : Nat} {u : Nat} (h_r : σ 9 0 0 = nI r) (h_u : σ 10 0 0 = nI u) (hr4 : r ≤ 4) (hu4 : u ≤ 4) (F : CallFix p m c cc nL s args (cw :: tt) own) (hG : Cond.methodLink own index y_Ls_holdWithoutColumns ∈ tt) (hR : 1 + 1 ≤ R.frames ∧ 8 + (2 + 11) + 21 ≤ R.locals) (hK : va_K D vwCl (ot cI cL) s) (hP : va_P D vwCl (ow cI cL ad σ) H) (hsz : ls.size = nL) (hW : (rest.map fun v => v.category).sum ≤ 8) (hcs : cells ≤ R.cells ∧ slots ≤ R.slots) (hdg : decode cc pc = .ok (.invokevirtual index, 3)) (kk : W p l e R s m args below meth c H locs cells slots Q (F0 m (pc + 3) ls (.int (if ls_0 σ r (r + u) = true then 1 else 0) :: rest))) : W p l e R s m args below meth c H locs cells slots Q (F0 m pc ls (.ref (ad 4) :: rest)) :=
  ok_VR (As := []) F (c_Ls_holdWithoutColumns σ h_r h_u hr4 hu4) 0 (tt_V hG i_Ls_holdWithoutColumns l_Ls_holdWithoutColumns in9_Ls k_Ls_holdWithoutColumns) rfl ⟨rfl, rfl⟩ (by decide +kernel) hR hK hP (4) 2 rfl rfl ow_4 rfl hsz rfl hW hcs hdg kk
set_option maxHeartbeats 4000000 in
set_option maxRecDepth 100000 in
theorem c_Ls_beginSums (σ : oS) {r : Nat} {u : Nat} (h_r : σ 9 0 0 = nI r) (h_u : σ 10 0 0 = nI u) (hr4 : r ≤ 4) (hu4 : u ≤ 4) {n : Nat} (hn : σ 2 0 0 = nI n) (hn9 : n ≤ 5) : ok_MM l y_Ls_beginSums (Cond.code y_Ls_beginSums b_Ls_beginSums 3 none :: tt) { frames := 3, cells := 0, slots := 0, locals := 67 } D vwCl (ot cI cL) (ow cI cL ad σ) (ow cI cL ad (ls_b σ r n (r + u))) [.ref (ad 4), .ref (ad 1)] none := by
  refine ok_startM (cc := b_Ls_beginSums) (own := RLs) (maxL := 3) (ret := none) (by decide +kernel) rfl rfl (Nat.le_of_ble_eq_true rfl) ?_
  intro p e s m below meth c A F hr hlk hA hP hK hD hS ls hl
  have hl : lv_has ls 3 [(0, .ref (ad 4)), (1, .ref (ad 1))] := hl
  have hx := F.1
  have hb := F.2.1
  have lp : ∀ (f k : Nat), k ≤ (r + u) → (r + u) - k < f → ∀ (H : Heap) (locs : List Loc), va_P D vwCl (ow cI cL ad (ls_b σ r n k)) H → va_D A (ow cI cL ad (ls_b σ r n k)) → va_S A s.heap H locs → ∀ ls : Array Slot, lv_has ls 3 [(2, .int (nI k)), (0, .ref (ad 4)), (1, .ref (ad 1))] → W p l e { frames := 3, cells := 0, slots := 0, locals := 67 } s m ([.ref (ad 4), .ref (ad 1)] : List Value).toArray below meth c H locs 0 0 (MQ below (ok_qA D vwCl A (ow cI cL ad (ls_b σ r n (r + u))) none) ([.ref (ad 4), .ref (ad 1)] : List Value).toArray s 0 0 A) (F0 m 2 ls []) := by
    intro f
    induction f with
    | zero => intro k h1 h2; omega
    | succ f ih =>
      intro k h1 h2 H locs hP hD hS ls hl
      refine lv_iload_n hx hb d_Ls_beginSums_2 rfl (lv_at hl 0 rfl) ?_
      refine lv_aload_n hx hb d_Ls_beginSums_3 rfl (lv_at hl 1 rfl) ?_
      refine x_Ls_count F (tt1 158 rfl rfl) ⟨Nat.le_of_ble_eq_true rfl, Nat.le_of_ble_eq_true rfl⟩ hK hP hl.1 (Nat.le_of_ble_eq_true rfl) ⟨Nat.zero_le _, Nat.zero_le _⟩ d_Ls_beginSums_4 ?_
      refine lv_icmp_ge (tgt := 25) hx hb d_Ls_beginSums_7 (by decide) (fun c1 => ?_) (fun c1 => ?_)
      · have hkn : (r + u) = k := by
          rw [ls_b_c (by decide) (by decide), ls_b_c (by decide) (by decide), ls_cnt h_r h_u, nI_leI (by omega) (by omega)] at c1; omega
        subst hkn
        exact ok_vretM F hr hlk hP hD hS d_Ls_beginSums_25
      · have hkn : k < (r + u) := by
          rw [ls_b_c (by decide) (by decide), ls_b_c (by decide) (by decide), ls_cnt h_r h_u, nI_leI (by omega) (by omega)] at c1; omega
        refine lv_aload_n hx hb d_Ls_beginSums_10 rfl (lv_at hl 1 rfl) ?_
        refine lv_iload_n hx hb d_Ls_beginSums_11 rfl (lv_at hl 0 rfl) ?_
        refine x_Ls_at (r := r) (u := u) (by rw [ls_b_c (by decide) (by decide)]; exact h_r) (by rw [ls_b_c (by decide) (by decide)]; exact h_u) hr4 hu4 (k := k) rfl (by omega) (by omega) F (tt1 162 rfl rfl) ⟨Nat.le_of_ble_eq_true rfl, Nat.le_of_ble_eq_true rfl⟩ hK hP hl.1 (Nat.le_of_ble_eq_true rfl) ⟨Nat.zero_le _, Nat.zero_le _⟩ d_Ls_beginSums_12 ?_
        refine lv_aload_n hx hb d_Ls_beginSums_15 rfl (lv_at hl 2 rfl) ?_
        refine x_Li_beginSums (i := (ls_i r k)) (ls_i_lt hr4 hu4 (by omega)) (n := n) (by rw [ls_b_c (by decide) (by decide)]; exact hn) hn9 F (tt2 108 rfl rfl) ⟨Nat.le_of_ble_eq_true rfl, Nat.le_of_ble_eq_true rfl⟩ hK hP hD hS hA hl.1 (Nat.le_of_ble_eq_true rfl) ⟨Nat.zero_le _, Nat.zero_le _⟩ d_Ls_beginSums_16 (fun H locs hP hD hS => ?_)
        refine lv_iinc (v := nI (k + 1)) (lv' := [(2, .int (nI (k + 1))), (0, .ref (ad 4)), (1, .ref (ad 1))]) hx hb d_Ls_beginSums_19 hl (k := 0) rfl (nI_inc _) (by decide) rfl (fun ls hl => ?_)
        refine lv_goto (tgt := 2) hx hb d_Ls_beginSums_22 (by decide) ?_
        exact ih (k + 1) (by omega) (by omega) H locs hP hD hS ls (lv_sub hl [0, 1, 2] rfl)
  refine lv_iconst (v := 0) hx hb d_Ls_beginSums_0 (by decide) ?_
  refine lv_istore_n (lv' := [(2, .int 0), (0, .ref (ad 4)), (1, .ref (ad 1))]) hx hb d_Ls_beginSums_1 rfl hl (by decide) rfl (fun ls hl => ?_)
  exact lp ((r + u) + 1) 0 (by omega) (by omega) _ _ hP hD hS ls (lv_sub hl [0, 1, 2] rfl)
theorem x_Ls_beginSums {σ : oS} {r : Nat} {u : Nat} (h_r : σ 9 0 0 = nI r) (h_u : σ 10 0 0 = nI u) (hr4 : r ≤ 4) (hu4 : u ≤ 4) {n : Nat} (hn : σ 2 0 0 = nI n) (hn9 : n ≤ 5) (F : CallFix p m c cc nL s args (cw :: tt) own) (hG : Cond.methodLink own index y_Ls_beginSums ∈ tt) (hR : 3 + 1 ≤ R.frames ∧ 8 + (3 + 11) + 67 ≤ R.locals) (hK : va_K D vwCl (ot cI cL) s) (hP : va_P D vwCl (ow cI cL ad σ) H) (hD : va_D A (ow cI cL ad σ)) (hS : va_S A H0 H locs) (hA : ∀ q, H0.size ≤ q → A q) (hsz : ls.size = nL) (hW : (rest.map fun v => v.category).sum ≤ 8) (hcs : cells ≤ R.cells ∧ slots ≤ R.slots) (hdg : decode cc pc = .ok (.invokevirtual index, 3)) (kk : ∀ (H1 : Heap) (locs1 : List Loc), va_P D vwCl (ow cI cL ad (ls_b σ r n (r + u))) H1 → va_D A (ow cI cL ad (ls_b σ r n (r + u))) → va_S A H0 H1 locs1 → W p l e R s m args below meth c H1 locs1 cells slots Q (F0 m (pc + 3) ls (rest))) : W p l e R s m args below meth c H locs cells slots Q (F0 m pc ls (.ref (ad 1) :: .ref (ad 4) :: rest)) :=
  ok_VM (As := [.ref (ad 1)]) F (c_Ls_beginSums σ h_r h_u hr4 hu4 hn hn9) 1 (tt_V hG i_Ls_beginSums l_Ls_beginSums in9_Ls k_Ls_beginSums) rfl ⟨rfl, rfl⟩ (by decide +kernel) hR hK hP hD hS hA (4) 2 rfl rfl ow_4 rfl hsz rfl hW hcs hdg kk
set_option maxHeartbeats 4000000 in
set_option maxRecDepth 100000 in
theorem c_Ls_stillHold (σ : oS) {r : Nat} {u : Nat} (h_r : σ 9 0 0 = nI r) (h_u : σ 10 0 0 = nI u) (hr4 : r ≤ 4) (hu4 : u ≤ 4) {x : Int32} {j : Nat} (hj : x = nI j) (hj9 : j < 5) {y : Int32} : ok_MM l y_Ls_stillHold (Cond.code y_Ls_stillHold b_Ls_stillHold 4 (some .boolean) :: tt) { frames := 2, cells := 0, slots := 0, locals := 44 } D vwCl (ot cI cL) (ow cI cL ad σ) (ow cI cL ad ((ls_x r j y (r + u) 0 σ).1)) [.ref (ad 4), .int x, .int y] (some (.int (ls_x r j y (r + u) 0 σ).2)) := by
  refine ok_startM (cc := b_Ls_stillHold) (own := RLs) (maxL := 4) (ret := (some .boolean)) (by decide +kernel) rfl rfl (Nat.le_of_ble_eq_true rfl) ?_
  intro p e s m below meth c A F hr hlk hA hP hK hD hS ls hl
  have hl : lv_has ls 4 [(0, .ref (ad 4)), (1, .int x), (2, .int y)] := hl
  have hx := F.1
  have hb := F.2.1
  have lq : ∀ (f k : Nat), k ≤ u → u - k < f → ∀ τ : oS, (∀ c9, c9 ≠ 7 → τ c9 = σ c9) → ls_x r j y (r + u) 0 σ = ls_x r j y (r + u - (r + k)) (r + k) τ → ∀ (H : Heap) (locs : List Loc), va_P D vwCl (ow cI cL ad τ) H → va_D A (ow cI cL ad τ) → va_S A s.heap H locs → ∀ ls : Array Slot, lv_has ls 4 [(3, .int (nI k)), (0, .ref (ad 4)), (1, .int x), (2, .int y)] → W p l e { frames := 2, cells := 0, slots := 0, locals := 44 } s m ([.ref (ad 4), .int x, .int y] : List Value).toArray below meth c H locs 0 0 (MQ below (ok_qA D vwCl A (ow cI cL ad ((ls_x r j y (r + u) 0 σ).1)) (some (.int (ls_x r j y (r + u) 0 σ).2))) ([.ref (ad 4), .int x, .int y] : List Value).toArray s 0 0 A) (F0 m 34 ls []) := by
    intro f
    induction f with
    | zero => intro k h1 h2; omega
    | succ f ih =>
      intro k h1 h2 τ h7 heq H locs hP hD hS ls hl
      refine lv_iload_n hx hb d_Ls_stillHold_34 rfl (lv_at hl 0 rfl) ?_
      refine lv_aload_n hx hb d_Ls_stillHold_35 rfl (lv_at hl 1 rfl) ?_
      refine gf_Ls_cutCount F hK hP d_Ls_stillHold_36 ?_
      refine lv_icmp_ge (tgt := 64) hx hb d_Ls_stillHold_39 (by decide) (fun c1 => ?_) (fun c1 => ?_)
      · have hkn : k = u := by
          rw [h7 10 (by decide), h_u, nI_leI (by omega) (by omega)] at c1; omega
        subst hkn
        rw [Nat.sub_self, ls_x] at heq
        refine lv_iconst (v := 1) hx hb d_Ls_stillHold_64 (by decide) ?_
        exact ok_zretM F hr hlk (by rw [heq]; exact hP) (by rw [heq]; exact hD) hS (rfl) (by rw [heq]) d_Ls_stillHold_65
      · have hkn : k < u := by
          rw [h7 10 (by decide), h_u, nI_leI (by omega) (by omega)] at c1; omega
        have hli : ls_i r (r + k) = (k + 4) := by unfold ls_i; split <;> omega
        rw [show r + u - (r + k) = (r + u - ((r + k) + 1)) + 1 by omega, ls_x, hli] at heq
        refine lv_aload_n hx hb d_Ls_stillHold_42 rfl (lv_at hl 1 rfl) ?_
        refine gf_Ls_cuts F hK hP d_Ls_stillHold_43 ?_
        refine lv_iload_n hx hb d_Ls_stillHold_46 rfl (lv_at hl 0 rfl) ?_
        refine ok_aald F hK hP 6 1 ow_6 rfl (j := k) rfl (by omega) (by decide) rfl d_Ls_stillHold_47 ?_
        refine lv_iload_n hx hb d_Ls_stillHold_48 rfl (lv_at hl 2 rfl) ?_
        refine lv_iload_n hx hb d_Ls_stillHold_49 rfl (lv_at hl 3 rfl) ?_
        refine x_Li_stillHolds (i := (k + 4)) (by omega) (j := j) hj (by omega) F (tt3 17 rfl rfl) ⟨Nat.le_of_ble_eq_true rfl, Nat.le_of_ble_eq_true rfl⟩ hK hP hD hS hA hl.1 (Nat.le_of_ble_eq_true rfl) ⟨Nat.zero_le _, Nat.zero_le _⟩ d_Ls_stillHold_50 (fun H locs hP hD hS => ?_)
        refine lv_if_ne (tgt := 58) hx hb d_Ls_stillHold_53 (by decide) (fun c2 => ?_) (fun c2 => ?_)
        · rw [if_neg (show ¬ ls_v τ (k + 4) j y = 0 from c2)] at heq
          refine lv_iinc (v := nI (k + 1)) (lv' := [(3, .int (nI (k + 1))), (0, .ref (ad 4)), (1, .int x), (2, .int y)]) hx hb d_Ls_stillHold_58 hl (k := 0) rfl (nI_inc _) (by decide) rfl (fun ls hl => ?_)
          refine lv_goto (tgt := 34) hx hb d_Ls_stillHold_61 (by decide) ?_
          exact ih (k + 1) (by omega) (by omega) (ls_t τ (k + 4) j y) (fun c9 h9 => by rw [ls_t_c h9, h7 c9 h9]) (by rw [← Nat.add_assoc]; exact heq) H locs hP hD hS ls (lv_sub hl [0, 1, 2, 3] rfl)
        · rw [if_pos (show ls_v τ (k + 4) j y = 0 from c2)] at heq
          refine lv_iconst (v := 0) hx hb d_Ls_stillHold_56 (by decide) ?_
          exact ok_zretM F hr hlk (by rw [heq]; exact hP) (by rw [heq]; exact hD) hS (rfl) (by rw [heq]) d_Ls_stillHold_57
  have lp : ∀ (f k : Nat), k ≤ r → r - k < f → ∀ τ : oS, (∀ c9, c9 ≠ 7 → τ c9 = σ c9) → ls_x r j y (r + u) 0 σ = ls_x r j y (r + u - k) k τ → ∀ (H : Heap) (locs : List Loc), va_P D vwCl (ow cI cL ad τ) H → va_D A (ow cI cL ad τ) → va_S A s.heap H locs → ∀ ls : Array Slot, lv_has ls 4 [(3, .int (nI k)), (0, .ref (ad 4)), (1, .int x), (2, .int y)] → W p l e { frames := 2, cells := 0, slots := 0, locals := 44 } s m ([.ref (ad 4), .int x, .int y] : List Value).toArray below meth c H locs 0 0 (MQ below (ok_qA D vwCl A (ow cI cL ad ((ls_x r j y (r + u) 0 σ).1)) (some (.int (ls_x r j y (r + u) 0 σ).2))) ([.ref (ad 4), .int x, .int y] : List Value).toArray s 0 0 A) (F0 m 2 ls []) := by
    intro f
    induction f with
    | zero => intro k h1 h2; omega
    | succ f ih =>
      intro k h1 h2 τ h7 heq H locs hP hD hS ls hl
      refine lv_iload_n hx hb d_Ls_stillHold_2 rfl (lv_at hl 0 rfl) ?_
      refine lv_aload_n hx hb d_Ls_stillHold_3 rfl (lv_at hl 1 rfl) ?_
      refine gf_Ls_rowCount F hK hP d_Ls_stillHold_4 ?_
      refine lv_icmp_ge (tgt := 32) hx hb d_Ls_stillHold_7 (by decide) (fun c3 => ?_) (fun c3 => ?_)
      · have hkn : k = r := by
          rw [h7 9 (by decide), h_r, nI_leI (by omega) (by omega)] at c3; omega
        subst hkn
        refine lv_iconst (v := 0) hx hb d_Ls_stillHold_32 (by decide) ?_
        refine lv_istore_n (lv' := [(3, .int 0), (0, .ref (ad 4)), (1, .int x), (2, .int y)]) hx hb d_Ls_stillHold_33 rfl hl (by decide) rfl (fun ls hl => ?_)
        exact lq (u + 1) 0 (by omega) (by omega) τ h7 (by rw [Nat.add_zero]; exact heq) H locs hP hD hS ls (lv_sub hl [0, 1, 2, 3] rfl)
      · have hkn : k < r := by
          rw [h7 9 (by decide), h_r, nI_leI (by omega) (by omega)] at c3; omega
        have hli : ls_i r k = k := by unfold ls_i; split <;> omega
        rw [show r + u - k = (r + u - (k + 1)) + 1 by omega, ls_x, hli] at heq
        refine lv_aload_n hx hb d_Ls_stillHold_10 rfl (lv_at hl 1 rfl) ?_
        refine gf_Ls_rows F hK hP d_Ls_stillHold_11 ?_
        refine lv_iload_n hx hb d_Ls_stillHold_14 rfl (lv_at hl 0 rfl) ?_
        refine ok_aald F hK hP 5 1 ow_5 rfl (j := k) rfl (by omega) (by decide) rfl d_Ls_stillHold_15 ?_
        refine lv_iload_n hx hb d_Ls_stillHold_16 rfl (lv_at hl 2 rfl) ?_
        refine lv_iload_n hx hb d_Ls_stillHold_17 rfl (lv_at hl 3 rfl) ?_
        refine x_Li_stillHolds (i := k) (by omega) (j := j) hj (by omega) F (tt3 17 rfl rfl) ⟨Nat.le_of_ble_eq_true rfl, Nat.le_of_ble_eq_true rfl⟩ hK hP hD hS hA hl.1 (Nat.le_of_ble_eq_true rfl) ⟨Nat.zero_le _, Nat.zero_le _⟩ d_Ls_stillHold_18 (fun H locs hP hD hS => ?_)
        refine lv_if_ne (tgt := 26) hx hb d_Ls_stillHold_21 (by decide) (fun c4 => ?_) (fun c4 => ?_)
        · rw [if_neg (show ¬ ls_v τ k j y = 0 from c4)] at heq
          refine lv_iinc (v := nI (k + 1)) (lv' := [(3, .int (nI (k + 1))), (0, .ref (ad 4)), (1, .int x), (2, .int y)]) hx hb d_Ls_stillHold_26 hl (k := 0) rfl (nI_inc _) (by decide) rfl (fun ls hl => ?_)
          refine lv_goto (tgt := 2) hx hb d_Ls_stillHold_29 (by decide) ?_
          exact ih (k + 1) (by omega) (by omega) (ls_t τ k j y) (fun c9 h9 => by rw [ls_t_c h9, h7 c9 h9]) (by exact heq) H locs hP hD hS ls (lv_sub hl [0, 1, 2, 3] rfl)
        · rw [if_pos (show ls_v τ k j y = 0 from c4)] at heq
          refine lv_iconst (v := 0) hx hb d_Ls_stillHold_24 (by decide) ?_
          exact ok_zretM F hr hlk (by rw [heq]; exact hP) (by rw [heq]; exact hD) hS (rfl) (by rw [heq]) d_Ls_stillHold_25
  refine lv_iconst (v := 0) hx hb d_Ls_stillHold_0 (by decide) ?_
  refine lv_istore_n (lv' := [(3, .int 0), (0, .ref (ad 4)), (1, .int x), (2, .int y)]) hx hb d_Ls_stillHold_1 rfl hl (by decide) rfl (fun ls hl => ?_)
  exact lp (r + 1) 0 (by omega) (by omega) σ (fun _ _ => rfl) rfl _ _ hP hD hS ls (lv_sub hl [0, 1, 2, 3] rfl)
theorem x_Ls_stillHold {σ : oS} {r : Nat} {u : Nat} (h_r : σ 9 0 0 = nI r) (h_u : σ 10 0 0 = nI u) (hr4 : r ≤ 4) (hu4 : u ≤ 4) {x : Int32} {j : Nat} (hj : x = nI j) (hj9 : j < 5) {y : Int32} (F : CallFix p m c cc nL s args (cw :: tt) own) (hG : Cond.methodLink own index y_Ls_stillHold ∈ tt) (hR : 2 + 1 ≤ R.frames ∧ 8 + (4 + 11) + 44 ≤ R.locals) (hK : va_K D vwCl (ot cI cL) s) (hP : va_P D vwCl (ow cI cL ad σ) H) (hD : va_D A (ow cI cL ad σ)) (hS : va_S A H0 H locs) (hA : ∀ q, H0.size ≤ q → A q) (hsz : ls.size = nL) (hW : (rest.map fun v => v.category).sum ≤ 8) (hcs : cells ≤ R.cells ∧ slots ≤ R.slots) (hdg : decode cc pc = .ok (.invokevirtual index, 3)) (kk : ∀ (H1 : Heap) (locs1 : List Loc), va_P D vwCl (ow cI cL ad ((ls_x r j y (r + u) 0 σ).1)) H1 → va_D A (ow cI cL ad ((ls_x r j y (r + u) 0 σ).1)) → va_S A H0 H1 locs1 → W p l e R s m args below meth c H1 locs1 cells slots Q (F0 m (pc + 3) ls (.int (ls_x r j y (r + u) 0 σ).2 :: rest))) : W p l e R s m args below meth c H locs cells slots Q (F0 m pc ls (.int y :: .int x :: .ref (ad 4) :: rest)) :=
  ok_VM (As := [.int x, .int y]) F (c_Ls_stillHold σ h_r h_u hr4 hu4 hj hj9) 2 (tt_V hG i_Ls_stillHold l_Ls_stillHold in9_Ls k_Ls_stillHold) rfl ⟨rfl, rfl⟩ (by decide +kernel) hR hK hP hD hS hA (4) 2 rfl rfl ow_4 rfl hsz rfl hW hcs hdg kk
end
end
section
-- the search
theorem nb_01 {x : Int32} (h : x = 0 ∨ x = 1) : narrow .boolean (.int x) = .int x := by
  rcases h with rfl | rfl <;> rfl
theorem nb_f {x : Int32} (h : x = 0 ∨ x = 1) : fits .boolean (.int x) = true := by
  rcases h with rfl | rfl <;> rfl
def se_w (σ : oS) (x : Int32) : Int32 := if σ 17 0 0 = 0 then 1 else if x ≤ σ 18 0 0 then 0 else 1
theorem se_w_b {σ : oS} {x : Int32} : narrow .boolean (.int (se_w σ x)) = .int (se_w σ x) := by
  unfold se_w
  split
  · rfl
  · split <;> rfl
def se_k (σ : oS) (n : Nat) (x : Int32) : oS := uA (u3 (u3 σ 17 0 0 1) 18 0 0 x) 12 0 (va_cpy (σ 11 0) (σ 12 0) 0 0 n)
/-- to the next number: r columns have one -/
def se_n (σ : oS) : Nat → oS
  | 0 => σ
  | r + 1 => if σ 11 0 r = 0 then se_n (u3 σ 15 0 0 (nI r - 1)) r else u3 σ 11 0 r (σ 11 0 r - 1)
/-- the most that the last d of n columns can add -/
def se_m (σ : oS) (k : Nat) : Int32 := if σ 0 0 k * σ 1 0 k < 0 then 0 else σ 0 0 k * σ 1 0 k
def se_q (σ : oS) (n : Nat) : Nat → Int32
  | 0 => 0
  | d + 1 => se_q σ n d + se_m σ (n - (d + 1))
def se_h (σ : oS) (n r : Nat) : oS := uA σ 14 0 (fun j => if r ≤ j ∧ j ≤ n then se_q σ n (n - j) else σ 14 0 j)
theorem uA_uA {σ : oS} {c i : Nat} {f g : Nat → Int32} : uA (uA σ c i f) c i g = uA σ c i g := by
  funext c9 i9
  unfold uA
  split <;> rfl
theorem se_h_c {σ : oS} {n r c : Nat} (h : c ≠ 14) : se_h σ n r c = σ c := by
  funext i9
  unfold se_h
  rw [uA_n (fun q => h q.1)]
theorem se_m_h {σ : oS} {n r k : Nat} : se_m (se_h σ n r) k = se_m σ k := by
  unfold se_m
  rw [se_h_c (by decide), se_h_c (by decide)]
theorem se_h_0 {σ : oS} {n : Nat} : u3 σ 14 0 n 0 = se_h σ n n := by
  unfold u3 se_h
  congr 1
  funext j
  unfold upd
  by_cases h : j = n
  · subst h
    rw [if_pos rfl, if_pos (by omega), Nat.sub_self]
    rfl
  · rw [if_neg h, if_neg (by omega)]
theorem se_h_step {σ : oS} {n r : Nat} (h : r < n) : u3 (se_h σ n (r + 1)) 14 0 r (se_h σ n (r + 1) 14 0 (r + 1) + se_m (se_h σ n (r + 1)) r) = se_h σ n r := by
  rw [se_m_h]
  unfold u3
  conv => lhs; unfold se_h
  rw [uA_uA]
  conv => rhs; unfold se_h
  congr 1
  funext j
  unfold upd
  rw [uA_s]
  by_cases hj : j = r
  · subst hj
    rw [if_pos rfl, if_pos (by omega), if_pos (by omega), show n - j = (n - (j + 1)) + 1 by omega]
    show _ = se_q σ n (n - (j + 1)) + se_m σ (n - (n - (j + 1) + 1))
    rw [show n - (n - (j + 1) + 1) = j by omega]
  · rw [if_neg hj]
    by_cases h2 : r + 1 ≤ j ∧ j ≤ n
    · rw [if_pos h2, if_pos (by omega)]
    · rw [if_neg h2, if_neg (by omega)]
/-- begin -/
def se_b (σ : oS) (n r u : Nat) : oS := u3 (u3 (u3 (u3 (u3 (ls_b (se_h σ n 0) r n (r + u)) 13 0 0 0) 16 0 0 0) 17 0 0 0) 15 0 0 0) 11 0 0 (σ 1 0 0)
def se_0 (σ : oS) (r u : Nat) : oS := u3 (u3 (u3 σ 17 0 0 (if ls_0 σ r (r + u) = true then 1 else 0)) 18 0 0 0) 15 0 0 (-1)
/-- one step: the column k gets its number -/
def se_1 (σ : oS) (k : Nat) : oS := u3 (u3 σ 16 0 0 (σ 16 0 0 + 1)) 13 0 (k + 1) (σ 13 0 k + σ 0 0 k * σ 11 0 k)
def se_s (σ : oS) (n r u k : Nat) : oS :=
  if se_w σ (σ 13 0 k + σ 0 0 k * σ 11 0 k + σ 14 0 (k + 1)) = 0 then se_n (se_1 σ k) (k + 1)
  else if (ls_x r k (σ 11 0 k) (r + u) 0 (se_1 σ k)).2 = 0 then se_n (ls_x r k (σ 11 0 k) (r + u) 0 (se_1 σ k)).1 (k + 1)
  else if k + 1 < n then u3 (u3 (ls_x r k (σ 11 0 k) (r + u) 0 (se_1 σ k)).1 15 0 0 (nI (k + 1))) 11 0 (k + 1) (σ 1 0 (k + 1))
  else se_n (se_k (ls_x r k (σ 11 0 k) (r + u) 0 (se_1 σ k)).1 n (σ 13 0 k + σ 0 0 k * σ 11 0 k)) (k + 1)
section
variable {l : Launch} {D : va_G} {cI cL : ClassId} {ad : Nat → Nat}
variable {p : Program} {e : Env} {R : Room} {s : State} {m : MethodId} {args : Array Value} {below : List Frame} {meth : Method} {c : Code} {H : Heap} {locs : List Loc} {cells slots : Nat} {Q : State → Prop} {cc : ByteArray} {pc nL index : Nat} {ls : Array Slot} {rest : List Value} {A : Nat → Prop} {H0 : Heap} {cw : Cond} {own : String}
set_option maxHeartbeats 4000000 in
set_option maxRecDepth 100000 in
theorem c_Co_add (σ : oS) {n : Nat} (hn : σ 2 0 0 = nI n) (hn5 : n < 5) {x : Int32} {y : Int32} : ok_MM l y_Co_add (Cond.code y_Co_add b_Co_add 3 (some .int) :: tt) { frames := 0, cells := 0, slots := 0, locals := 0 } D vwCl (ot cI cL) (ow cI cL ad σ) (ow cI cL ad (u3 (u3 (u3 σ 0 0 n x) 1 0 n y) 2 0 0 (nI (n + 1)))) [.ref (ad 1), .int x, .int y] (some (.int (nI n))) := by
  refine ok_startM (cc := b_Co_add) (own := RCo) (maxL := 3) (ret := (some .int)) (by decide +kernel) rfl rfl (Nat.le_of_ble_eq_true rfl) ?_
  intro p e s m below meth c A F hr hlk hA hP hK hD hS ls hl
  have hl : lv_has ls 3 [(0, .ref (ad 1)), (1, .int x), (2, .int y)] := hl
  have hx := F.1
  have hb := F.2.1
  refine lv_aload_n hx hb d_Co_add_0 rfl (lv_at hl 0 rfl) ?_
  refine gf_Co_worths F hK hP d_Co_add_1 ?_
  refine lv_aload_n hx hb d_Co_add_4 rfl (lv_at hl 0 rfl) ?_
  refine gf_Co_count F hK hP d_Co_add_5 ?_
  refine lv_iload_n hx hb d_Co_add_8 rfl (lv_at hl 1 rfl) ?_
  refine sa_0 (j := n) F hK hP hD hS hn (by omega) d_Co_add_9 (fun H locs hP hD hS => ?_)
  refine lv_aload_n hx hb d_Co_add_10 rfl (lv_at hl 0 rfl) ?_
  refine gf_Co_tops F hK hP d_Co_add_11 ?_
  refine lv_aload_n hx hb d_Co_add_14 rfl (lv_at hl 0 rfl) ?_
  refine gf_Co_count F hK hP d_Co_add_15 ?_
  refine lv_iload_n hx hb d_Co_add_18 rfl (lv_at hl 2 rfl) ?_
  refine sa_1 (j := n) F hK hP hD hS (by simp [u3_at, uA, hn]) (by omega) d_Co_add_19 (fun H locs hP hD hS => ?_)
  refine lv_aload_n hx hb d_Co_add_20 rfl (lv_at hl 0 rfl) ?_
  refine lv_dup hx hb d_Co_add_21 rfl ?_
  refine gf_Co_count F hK hP d_Co_add_22 ?_
  refine lv_iconst (v := 1) hx hb d_Co_add_25 (by decide) ?_
  refine lv_iadd hx hb d_Co_add_26 ?_
  refine pf_Co_count F hK hP hD hS d_Co_add_27 (fun H locs hP hD hS => ?_)
  have ew : u3 (u3 (u3 σ 0 0 n x) 1 0 n y) 2 0 0 (((u3 (u3 σ 0 0 n x) 1 0 n y) 2 0 0) + 1) = u3 (u3 (u3 σ 0 0 n x) 1 0 n y) 2 0 0 (nI (n + 1)) := by congr 1; simp [u3_at, hn, nI_1]
  rw [ew] at hP hD
  clear ew
  refine lv_aload_n hx hb d_Co_add_30 rfl (lv_at hl 0 rfl) ?_
  refine gf_Co_count F hK hP d_Co_add_31 ?_
  refine lv_iconst (v := 1) hx hb d_Co_add_34 (by decide) ?_
  refine lv_isub hx hb d_Co_add_35 ?_
  exact ok_iretM F hr hlk hP hD hS (by rw [u3_s]; exact nI_pred n) d_Co_add_36
theorem x_Co_add {σ : oS} {n : Nat} (hn : σ 2 0 0 = nI n) (hn5 : n < 5) {x : Int32} {y : Int32} (F : CallFix p m c cc nL s args (cw :: tt) own) (hG : Cond.methodLink own index y_Co_add ∈ tt) (hR : 0 + 1 ≤ R.frames ∧ 8 + (3 + 11) + 0 ≤ R.locals) (hK : va_K D vwCl (ot cI cL) s) (hP : va_P D vwCl (ow cI cL ad σ) H) (hD : va_D A (ow cI cL ad σ)) (hS : va_S A H0 H locs) (hA : ∀ q, H0.size ≤ q → A q) (hsz : ls.size = nL) (hW : (rest.map fun v => v.category).sum ≤ 8) (hcs : cells ≤ R.cells ∧ slots ≤ R.slots) (hdg : decode cc pc = .ok (.invokevirtual index, 3)) (kk : ∀ (H1 : Heap) (locs1 : List Loc), va_P D vwCl (ow cI cL ad (u3 (u3 (u3 σ 0 0 n x) 1 0 n y) 2 0 0 (nI (n + 1)))) H1 → va_D A (ow cI cL ad (u3 (u3 (u3 σ 0 0 n x) 1 0 n y) 2 0 0 (nI (n + 1)))) → va_S A H0 H1 locs1 → W p l e R s m args below meth c H1 locs1 cells slots Q (F0 m (pc + 3) ls (.int (nI n) :: rest))) : W p l e R s m args below meth c H locs cells slots Q (F0 m pc ls (.int y :: .int x :: .ref (ad 1) :: rest)) :=
  ok_VM (As := [.int x, .int y]) F (c_Co_add σ hn hn5) 2 (tt_V hG i_Co_add l_Co_add in9_Co k_Co_add) rfl ⟨rfl, rfl⟩ (by decide +kernel) hR hK hP hD hS hA (1) 0 rfl rfl ow_1 rfl hsz rfl hW hcs hdg kk
set_option maxHeartbeats 4000000 in
set_option maxRecDepth 100000 in
theorem c_Se_stepsGiven (σ : oS) : ok_MR l y_Se_stepsGiven (Cond.code y_Se_stepsGiven b_Se_stepsGiven 1 (some .int) :: tt) { frames := 0, cells := 0, slots := 0, locals := 0 } D vwCl (ot cI cL) (ow cI cL ad σ) [.ref (ad 7)] (some (.int (σ 16 0 0))) := by
  refine ok_startR (cc := b_Se_stepsGiven) (own := RSe) (maxL := 1) (ret := (some .int)) (by decide +kernel) rfl rfl (Nat.le_of_ble_eq_true rfl) ?_
  intro p e s m below meth c F hr hlk hP hK ls hl
  have hl : lv_has ls 1 [(0, .ref (ad 7))] := hl
  have hx := F.1
  have hb := F.2.1
  refine lv_aload_n hx hb d_Se_stepsGiven_0 rfl (lv_at hl 0 rfl) ?_
  refine gf_Se_steps F hK hP d_Se_stepsGiven_1 ?_
  exact ok_iretR F hr hlk (rfl) d_Se_stepsGiven_4
theorem x_Se_stepsGiven {σ : oS} (F : CallFix p m c cc nL s args (cw :: tt) own) (hG : Cond.methodLink own index y_Se_stepsGiven ∈ tt) (hR : 0 + 1 ≤ R.frames ∧ 8 + (1 + 11) + 0 ≤ R.locals) (hK : va_K D vwCl (ot cI cL) s) (hP : va_P D vwCl (ow cI cL ad σ) H) (hsz : ls.size = nL) (hW : (rest.map fun v => v.category).sum ≤ 8) (hcs : cells ≤ R.cells ∧ slots ≤ R.slots) (hdg : decode cc pc = .ok (.invokevirtual index, 3)) (kk : W p l e R s m args below meth c H locs cells slots Q (F0 m (pc + 3) ls (.int (σ 16 0 0) :: rest))) : W p l e R s m args below meth c H locs cells slots Q (F0 m pc ls (.ref (ad 7) :: rest)) :=
  ok_VR (As := []) F (c_Se_stepsGiven σ) 0 (tt_V hG i_Se_stepsGiven l_Se_stepsGiven in9_Se k_Se_stepsGiven) rfl ⟨rfl, rfl⟩ (by decide +kernel) hR hK hP (7) 3 rfl rfl ow_7 rfl hsz rfl hW hcs hdg kk
set_option maxHeartbeats 4000000 in
set_option maxRecDepth 100000 in
theorem c_Se_hasFound (σ : oS) (hfo : σ 17 0 0 = 0 ∨ σ 17 0 0 = 1) : ok_MR l y_Se_hasFound (Cond.code y_Se_hasFound b_Se_hasFound 1 (some .boolean) :: tt) { frames := 0, cells := 0, slots := 0, locals := 0 } D vwCl (ot cI cL) (ow cI cL ad σ) [.ref (ad 7)] (some (.int (σ 17 0 0))) := by
  refine ok_startR (cc := b_Se_hasFound) (own := RSe) (maxL := 1) (ret := (some .boolean)) (by decide +kernel) rfl rfl (Nat.le_of_ble_eq_true rfl) ?_
  intro p e s m below meth c F hr hlk hP hK ls hl
  have hl : lv_has ls 1 [(0, .ref (ad 7))] := hl
  have hx := F.1
  have hb := F.2.1
  refine lv_aload_n hx hb d_Se_hasFound_0 rfl (lv_at hl 0 rfl) ?_
  refine gf_Se_found F hK hP d_Se_hasFound_1 ?_
  exact ok_zretR F hr hlk (nb_01 hfo) (rfl) d_Se_hasFound_4
theorem x_Se_hasFound {σ : oS} (hfo : σ 17 0 0 = 0 ∨ σ 17 0 0 = 1) (F : CallFix p m c cc nL s args (cw :: tt) own) (hG : Cond.methodLink own index y_Se_hasFound ∈ tt) (hR : 0 + 1 ≤ R.frames ∧ 8 + (1 + 11) + 0 ≤ R.locals) (hK : va_K D vwCl (ot cI cL) s) (hP : va_P D vwCl (ow cI cL ad σ) H) (hsz : ls.size = nL) (hW : (rest.map fun v => v.category).sum ≤ 8) (hcs : cells ≤ R.cells ∧ slots ≤ R.slots) (hdg : decode cc pc = .ok (.invokevirtual index, 3)) (kk : W p l e R s m args below meth c H locs cells slots Q (F0 m (pc + 3) ls (.int (σ 17 0 0) :: rest))) : W p l e R s m args below meth c H locs cells slots Q (F0 m pc ls (.ref (ad 7) :: rest)) :=
  ok_VR (As := []) F (c_Se_hasFound σ hfo) 0 (tt_V hG i_Se_hasFound l_Se_hasFound in9_Se k_Se_hasFound) rfl ⟨rfl, rfl⟩ (by decide +kernel) hR hK hP (7) 3 rfl rfl ow_7 rfl hsz rfl hW hcs hdg kk
set_option maxHeartbeats 4000000 in
set_option maxRecDepth 100000 in
theorem c_Se_bestWorth (σ : oS) : ok_MR l y_Se_bestWorth (Cond.code y_Se_bestWorth b_Se_bestWorth 1 (some .int) :: tt) { frames := 0, cells := 0, slots := 0, locals := 0 } D vwCl (ot cI cL) (ow cI cL ad σ) [.ref (ad 7)] (some (.int (σ 18 0 0))) := by
  refine ok_startR (cc := b_Se_bestWorth) (own := RSe) (maxL := 1) (ret := (some .int)) (by decide +kernel) rfl rfl (Nat.le_of_ble_eq_true rfl) ?_
  intro p e s m below meth c F hr hlk hP hK ls hl
  have hl : lv_has ls 1 [(0, .ref (ad 7))] := hl
  have hx := F.1
  have hb := F.2.1
  refine lv_aload_n hx hb d_Se_bestWorth_0 rfl (lv_at hl 0 rfl) ?_
  refine gf_Se_bestWorth F hK hP d_Se_bestWorth_1 ?_
  exact ok_iretR F hr hlk (rfl) d_Se_bestWorth_4
theorem x_Se_bestWorth {σ : oS} (F : CallFix p m c cc nL s args (cw :: tt) own) (hG : Cond.methodLink own index y_Se_bestWorth ∈ tt) (hR : 0 + 1 ≤ R.frames ∧ 8 + (1 + 11) + 0 ≤ R.locals) (hK : va_K D vwCl (ot cI cL) s) (hP : va_P D vwCl (ow cI cL ad σ) H) (hsz : ls.size = nL) (hW : (rest.map fun v => v.category).sum ≤ 8) (hcs : cells ≤ R.cells ∧ slots ≤ R.slots) (hdg : decode cc pc = .ok (.invokevirtual index, 3)) (kk : W p l e R s m args below meth c H locs cells slots Q (F0 m (pc + 3) ls (.int (σ 18 0 0) :: rest))) : W p l e R s m args below meth c H locs cells slots Q (F0 m pc ls (.ref (ad 7) :: rest)) :=
  ok_VR (As := []) F (c_Se_bestWorth σ) 0 (tt_V hG i_Se_bestWorth l_Se_bestWorth in9_Se k_Se_bestWorth) rfl ⟨rfl, rfl⟩ (by decide +kernel) hR hK hP (7) 3 rfl rfl ow_7 rfl hsz rfl hW hcs hdg kk
set_option maxHeartbeats 4000000 in
set_option maxRecDepth 100000 in
theorem c_Se_bestNumber (σ : oS) {x : Int32} {j : Nat} (hj : x = nI j) (hj9 : j < 5) : ok_MR l y_Se_bestNumber (Cond.code y_Se_bestNumber b_Se_bestNumber 2 (some .int) :: tt) { frames := 0, cells := 0, slots := 0, locals := 0 } D vwCl (ot cI cL) (ow cI cL ad σ) [.ref (ad 7), .int x] (some (.int (σ 12 0 j))) := by
  refine ok_startR (cc := b_Se_bestNumber) (own := RSe) (maxL := 2) (ret := (some .int)) (by decide +kernel) rfl rfl (Nat.le_of_ble_eq_true rfl) ?_
  intro p e s m below meth c F hr hlk hP hK ls hl
  have hl : lv_has ls 2 [(0, .ref (ad 7)), (1, .int x)] := hl
  have hx := F.1
  have hb := F.2.1
  refine lv_aload_n hx hb d_Se_bestNumber_0 rfl (lv_at hl 0 rfl) ?_
  refine gf_Se_bestNumbers F hK hP d_Se_bestNumber_1 ?_
  refine lv_iload_n hx hb d_Se_bestNumber_4 rfl (lv_at hl 1 rfl) ?_
  refine ia_12 (j := j) F hK hP hj (by omega) d_Se_bestNumber_5 ?_
  exact ok_iretR F hr hlk (rfl) d_Se_bestNumber_6
theorem x_Se_bestNumber {σ : oS} {x : Int32} {j : Nat} (hj : x = nI j) (hj9 : j < 5) (F : CallFix p m c cc nL s args (cw :: tt) own) (hG : Cond.methodLink own index y_Se_bestNumber ∈ tt) (hR : 0 + 1 ≤ R.frames ∧ 8 + (2 + 11) + 0 ≤ R.locals) (hK : va_K D vwCl (ot cI cL) s) (hP : va_P D vwCl (ow cI cL ad σ) H) (hsz : ls.size = nL) (hW : (rest.map fun v => v.category).sum ≤ 8) (hcs : cells ≤ R.cells ∧ slots ≤ R.slots) (hdg : decode cc pc = .ok (.invokevirtual index, 3)) (kk : W p l e R s m args below meth c H locs cells slots Q (F0 m (pc + 3) ls (.int (σ 12 0 j) :: rest))) : W p l e R s m args below meth c H locs cells slots Q (F0 m pc ls (.int x :: .ref (ad 7) :: rest)) :=
  ok_VR (As := [.int x]) F (c_Se_bestNumber σ hj hj9) 1 (tt_V hG i_Se_bestNumber l_Se_bestNumber in9_Se k_Se_bestNumber) rfl ⟨rfl, rfl⟩ (by decide +kernel) hR hK hP (7) 3 rfl rfl ow_7 rfl hsz rfl hW hcs hdg kk
set_option maxHeartbeats 4000000 in
set_option maxRecDepth 100000 in
theorem c_Se_isWorthwhile (σ : oS) {x : Int32} : ok_MR l y_Se_isWorthwhile (Cond.code y_Se_isWorthwhile b_Se_isWorthwhile 2 (some .boolean) :: tt) { frames := 0, cells := 0, slots := 0, locals := 0 } D vwCl (ot cI cL) (ow cI cL ad σ) [.ref (ad 7), .int x] (some (.int (se_w σ x))) := by
  refine ok_startR (cc := b_Se_isWorthwhile) (own := RSe) (maxL := 2) (ret := (some .boolean)) (by decide +kernel) rfl rfl (Nat.le_of_ble_eq_true rfl) ?_
  intro p e s m below meth c F hr hlk hP hK ls hl
  have hl : lv_has ls 2 [(0, .ref (ad 7)), (1, .int x)] := hl
  have hx := F.1
  have hb := F.2.1
  refine lv_aload_n hx hb d_Se_isWorthwhile_0 rfl (lv_at hl 0 rfl) ?_
  refine gf_Se_found F hK hP d_Se_isWorthwhile_1 ?_
  refine lv_if_eq (tgt := 15) hx hb d_Se_isWorthwhile_4 (by decide) (fun c1 => ?_) (fun c1 => ?_)
  · refine lv_iconst (v := 1) hx hb d_Se_isWorthwhile_15 (by decide) ?_
    refine lv_goto (tgt := 20) hx hb d_Se_isWorthwhile_16 (by decide) ?_
    exact ok_zretR F hr hlk (rfl) (by simp [se_w, c1]) d_Se_isWorthwhile_20
  · refine lv_iload_n hx hb d_Se_isWorthwhile_7 rfl (lv_at hl 1 rfl) ?_
    refine lv_aload_n hx hb d_Se_isWorthwhile_8 rfl (lv_at hl 0 rfl) ?_
    refine gf_Se_bestWorth F hK hP d_Se_isWorthwhile_9 ?_
    refine lv_icmp_le (tgt := 19) hx hb d_Se_isWorthwhile_12 (by decide) (fun c2 => ?_) (fun c2 => ?_)
    · refine lv_iconst (v := 0) hx hb d_Se_isWorthwhile_19 (by decide) ?_
      exact ok_zretR F hr hlk (rfl) (by simp [se_w, c1, c2]) d_Se_isWorthwhile_20
    · refine lv_iconst (v := 1) hx hb d_Se_isWorthwhile_15 (by decide) ?_
      refine lv_goto (tgt := 20) hx hb d_Se_isWorthwhile_16 (by decide) ?_
      exact ok_zretR F hr hlk (rfl) (by simp [se_w, c1, c2]) d_Se_isWorthwhile_20
theorem x_Se_isWorthwhile {σ : oS} {x : Int32} (F : CallFix p m c cc nL s args (cw :: tt) own) (hG : Cond.methodLink own index y_Se_isWorthwhile ∈ tt) (hR : 0 + 1 ≤ R.frames ∧ 8 + (2 + 11) + 0 ≤ R.locals) (hK : va_K D vwCl (ot cI cL) s) (hP : va_P D vwCl (ow cI cL ad σ) H) (hsz : ls.size = nL) (hW : (rest.map fun v => v.category).sum ≤ 8) (hcs : cells ≤ R.cells ∧ slots ≤ R.slots) (hdg : decode cc pc = .ok (.invokevirtual index, 3)) (kk : W p l e R s m args below meth c H locs cells slots Q (F0 m (pc + 3) ls (.int (se_w σ x) :: rest))) : W p l e R s m args below meth c H locs cells slots Q (F0 m pc ls (.int x :: .ref (ad 7) :: rest)) :=
  ok_VR (As := [.int x]) F (c_Se_isWorthwhile σ) 1 (tt_V hG i_Se_isWorthwhile l_Se_isWorthwhile in9_Se k_Se_isWorthwhile) rfl ⟨rfl, rfl⟩ (by decide +kernel) hR hK hP (7) 3 rfl rfl ow_7 rfl hsz rfl hW hcs hdg kk
set_option maxHeartbeats 4000000 in
set_option maxRecDepth 100000 in
theorem c_Se_keep (σ : oS) {n : Nat} (hn : σ 2 0 0 = nI n) (hn9 : n ≤ 5) {x : Int32} : ok_MM l y_Se_keep (Cond.code y_Se_keep b_Se_keep 2 none :: tt) { frames := 1, cells := 0, slots := 0, locals := 40 } D vwCl (ot cI cL) (ow cI cL ad σ) (ow cI cL ad (se_k σ n x)) [.ref (ad 7), .int x] none := by
  refine ok_startM (cc := b_Se_keep) (own := RSe) (maxL := 2) (ret := none) (by decide +kernel) rfl rfl (Nat.le_of_ble_eq_true rfl) ?_
  intro p e s m below meth c A F hr hlk hA hP hK hD hS ls hl
  have hl : lv_has ls 2 [(0, .ref (ad 7)), (1, .int x)] := hl
  have hx := F.1
  have hb := F.2.1
  refine lv_aload_n hx hb d_Se_keep_0 rfl (lv_at hl 0 rfl) ?_
  refine lv_iconst (v := 1) hx hb d_Se_keep_1 (by decide) ?_
  refine pf_Se_found F hK hP hD hS (by rfl) (by rfl) d_Se_keep_2 (fun H locs hP hD hS => ?_)
  refine lv_aload_n hx hb d_Se_keep_5 rfl (lv_at hl 0 rfl) ?_
  refine lv_iload_n hx hb d_Se_keep_6 rfl (lv_at hl 1 rfl) ?_
  refine pf_Se_bestWorth F hK hP hD hS d_Se_keep_7 (fun H locs hP hD hS => ?_)
  refine lv_aload_n hx hb d_Se_keep_10 rfl (lv_at hl 0 rfl) ?_
  refine gf_Se_numbers F hK hP d_Se_keep_11 ?_
  refine lv_iconst (v := 0) hx hb d_Se_keep_14 (by decide) ?_
  refine lv_aload_n hx hb d_Se_keep_15 rfl (lv_at hl 0 rfl) ?_
  refine gf_Se_bestNumbers F hK hP d_Se_keep_16 ?_
  refine lv_iconst (v := 0) hx hb d_Se_keep_19 (by decide) ?_
  refine lv_aload_n hx hb d_Se_keep_20 rfl (lv_at hl 0 rfl) ?_
  refine gf_Se_columns F hK hP d_Se_keep_21 ?_
  refine x_Co_count F (tt2 100 rfl rfl) ⟨Nat.le_of_ble_eq_true rfl, Nat.le_of_ble_eq_true rfl⟩ hK hP hl.1 (Nat.le_of_ble_eq_true rfl) ⟨Nat.zero_le _, Nat.zero_le _⟩ d_Se_keep_24 ?_
  refine ok_copy F hK hP hD hS (List.mem_cons_of_mem _ (tt3 29 rfl rfl)) hl.1 (n9 := n) (by simp [u3_at, hn]) (by omega) (Nat.le_of_ble_eq_true rfl) (Nat.le_of_ble_eq_true rfl) d_Se_keep_27 (fun H locs hP hD hS => ?_)
  have ew : uA (u3 (u3 σ 17 0 0 1) 18 0 0 x) 12 0 (va_cpy ((u3 (u3 σ 17 0 0 1) 18 0 0 x) 11 0) ((u3 (u3 σ 17 0 0 1) 18 0 0 x) 12 0) 0 0 n) = se_k σ n x := by unfold se_k; rw [u3_c (by decide), u3_c (by decide), u3_c (by decide), u3_c (by decide)]
  rw [ew] at hP hD
  clear ew
  exact ok_vretM F hr hlk hP hD hS d_Se_keep_30
theorem x_Se_keep {σ : oS} {n : Nat} (hn : σ 2 0 0 = nI n) (hn9 : n ≤ 5) {x : Int32} (F : CallFix p m c cc nL s args (cw :: tt) own) (hG : Cond.methodLink own index y_Se_keep ∈ tt) (hR : 1 + 1 ≤ R.frames ∧ 8 + (2 + 11) + 40 ≤ R.locals) (hK : va_K D vwCl (ot cI cL) s) (hP : va_P D vwCl (ow cI cL ad σ) H) (hD : va_D A (ow cI cL ad σ)) (hS : va_S A H0 H locs) (hA : ∀ q, H0.size ≤ q → A q) (hsz : ls.size = nL) (hW : (rest.map fun v => v.category).sum ≤ 8) (hcs : cells ≤ R.cells ∧ slots ≤ R.slots) (hdg : decode cc pc = .ok (.invokevirtual index, 3)) (kk : ∀ (H1 : Heap) (locs1 : List Loc), va_P D vwCl (ow cI cL ad (se_k σ n x)) H1 → va_D A (ow cI cL ad (se_k σ n x)) → va_S A H0 H1 locs1 → W p l e R s m args below meth c H1 locs1 cells slots Q (F0 m (pc + 3) ls (rest))) : W p l e R s m args below meth c H locs cells slots Q (F0 m pc ls (.int x :: .ref (ad 7) :: rest)) :=
  ok_VM (As := [.int x]) F (c_Se_keep σ hn hn9) 1 (tt_V hG i_Se_keep l_Se_keep in9_Se k_Se_keep) rfl ⟨rfl, rfl⟩ (by decide +kernel) hR hK hP hD hS hA (7) 3 rfl rfl ow_7 rfl hsz rfl hW hcs hdg kk
set_option maxHeartbeats 4000000 in
set_option maxRecDepth 100000 in
theorem c_Se_toNextNumber (σ : oS) {q : Nat} (hq : σ 15 0 0 = nI q - 1) (hq5 : q ≤ 5) : ok_MM l y_Se_toNextNumber (Cond.code y_Se_toNextNumber b_Se_toNextNumber 1 none :: tt) { frames := 0, cells := 0, slots := 0, locals := 0 } D vwCl (ot cI cL) (ow cI cL ad σ) (ow cI cL ad (se_n σ q)) [.ref (ad 7)] none := by
  refine ok_startM (cc := b_Se_toNextNumber) (own := RSe) (maxL := 1) (ret := none) (by decide +kernel) rfl rfl (Nat.le_of_ble_eq_true rfl) ?_
  intro p e s m below meth c A F hr hlk hA hP hK hD hS ls hl
  have hl : lv_has ls 1 [(0, .ref (ad 7))] := hl
  have hx := F.1
  have hb := F.2.1
  have lp : ∀ (r : Nat) (τ : oS), r ≤ 5 → τ 15 0 0 = nI r - 1 → se_n σ q = se_n τ r → ∀ (H : Heap) (locs : List Loc), va_P D vwCl (ow cI cL ad τ) H → va_D A (ow cI cL ad τ) → va_S A s.heap H locs → ∀ ls : Array Slot, lv_has ls 1 [(0, .ref (ad 7))] → W p l e { frames := 0, cells := 0, slots := 0, locals := 0 } s m ([.ref (ad 7)] : List Value).toArray below meth c H locs 0 0 (MQ below (ok_qA D vwCl A (ow cI cL ad (se_n σ q)) none) ([.ref (ad 7)] : List Value).toArray s 0 0 A) (F0 m 0 ls []) := by
    intro r
    induction r with
    | zero =>
      intro τ h5 hat heq H locs hP hD hS ls hl
      rw [se_n] at heq
      refine lv_aload_n hx hb d_Se_toNextNumber_0 rfl (lv_at hl 0 rfl) ?_
      refine gf_Se_at F hK hP d_Se_toNextNumber_1 ?_
      refine lv_if_lt (tgt := 32) hx hb d_Se_toNextNumber_4 (by decide) (fun c1 => ?_) (fun c1 => ?_)
      · refine lv_aload_n hx hb d_Se_toNextNumber_32 rfl (lv_at hl 0 rfl) ?_
        refine gf_Se_at F hK hP d_Se_toNextNumber_33 ?_
        refine lv_if_lt (tgt := 52) hx hb d_Se_toNextNumber_36 (by decide) (fun c2 => ?_) (fun c2 => ?_)
        · exact ok_vretM F hr hlk (by rw [heq]; exact hP) (by rw [heq]; exact hD) hS d_Se_toNextNumber_52
        · exact absurd (by rw [hat]; decide) c2
      · exact absurd (by rw [hat]; decide) c1
    | succ r ih =>
      intro τ h5 hat heq H locs hP hD hS ls hl
      rw [nI_pred] at hat
      rw [se_n] at heq
      refine lv_aload_n hx hb d_Se_toNextNumber_0 rfl (lv_at hl 0 rfl) ?_
      refine gf_Se_at F hK hP d_Se_toNextNumber_1 ?_
      refine lv_if_lt (tgt := 32) hx hb d_Se_toNextNumber_4 (by decide) (fun c3 => ?_) (fun c3 => ?_)
      · exact absurd c3 (by rw [hat]; exact nI_pos (by omega))
      · refine lv_aload_n hx hb d_Se_toNextNumber_7 rfl (lv_at hl 0 rfl) ?_
        refine gf_Se_numbers F hK hP d_Se_toNextNumber_8 ?_
        refine lv_aload_n hx hb d_Se_toNextNumber_11 rfl (lv_at hl 0 rfl) ?_
        refine gf_Se_at F hK hP d_Se_toNextNumber_12 ?_
        refine ia_11 (j := r) F hK hP hat (by omega) d_Se_toNextNumber_15 ?_
        refine lv_if_ne (tgt := 32) hx hb d_Se_toNextNumber_16 (by decide) (fun c4 => ?_) (fun c4 => ?_)
        · rw [if_neg c4] at heq
          refine lv_aload_n hx hb d_Se_toNextNumber_32 rfl (lv_at hl 0 rfl) ?_
          refine gf_Se_at F hK hP d_Se_toNextNumber_33 ?_
          refine lv_if_lt (tgt := 52) hx hb d_Se_toNextNumber_36 (by decide) (fun c5 => ?_) (fun c5 => ?_)
          · exact absurd c5 (by rw [hat]; exact nI_pos (by omega))
          · refine lv_aload_n hx hb d_Se_toNextNumber_39 rfl (lv_at hl 0 rfl) ?_
            refine gf_Se_numbers F hK hP d_Se_toNextNumber_40 ?_
            refine lv_aload_n hx hb d_Se_toNextNumber_43 rfl (lv_at hl 0 rfl) ?_
            refine gf_Se_at F hK hP d_Se_toNextNumber_44 ?_
            refine lv_dup2_11 hx hb d_Se_toNextNumber_47 rfl rfl ?_
            refine ia_11 (j := r) F hK hP hat (by omega) d_Se_toNextNumber_48 ?_
            refine lv_iconst (v := 1) hx hb d_Se_toNextNumber_49 (by decide) ?_
            refine lv_isub hx hb d_Se_toNextNumber_50 ?_
            refine sa_11 (j := r) F hK hP hD hS hat (by omega) d_Se_toNextNumber_51 (fun H locs hP hD hS => ?_)
            exact ok_vretM F hr hlk (by rw [heq]; exact hP) (by rw [heq]; exact hD) hS d_Se_toNextNumber_52
        · rw [if_pos c4] at heq
          refine lv_aload_n hx hb d_Se_toNextNumber_19 rfl (lv_at hl 0 rfl) ?_
          refine lv_dup hx hb d_Se_toNextNumber_20 rfl ?_
          refine gf_Se_at F hK hP d_Se_toNextNumber_21 ?_
          refine lv_iconst (v := 1) hx hb d_Se_toNextNumber_24 (by decide) ?_
          refine lv_isub hx hb d_Se_toNextNumber_25 ?_
          refine pf_Se_at F hK hP hD hS d_Se_toNextNumber_26 (fun H locs hP hD hS => ?_)
          refine lv_goto (tgt := 0) hx hb d_Se_toNextNumber_29 (by decide) ?_
          have ew : u3 τ 15 0 0 ((τ 15 0 0) - 1) = u3 τ 15 0 0 (nI r - 1) := by rw [hat]
          rw [ew] at hP hD
          clear ew
          exact ih _ (by omega) (by rw [u3_s]) heq H locs hP hD hS ls hl
  exact lp q σ hq5 hq rfl _ _ hP hD hS ls hl
theorem x_Se_toNextNumber {σ : oS} {q : Nat} (hq : σ 15 0 0 = nI q - 1) (hq5 : q ≤ 5) (F : CallFix p m c cc nL s args (cw :: tt) own) (hG : Cond.methodLink own index y_Se_toNextNumber ∈ tt) (hR : 0 + 1 ≤ R.frames ∧ 8 + (1 + 11) + 0 ≤ R.locals) (hK : va_K D vwCl (ot cI cL) s) (hP : va_P D vwCl (ow cI cL ad σ) H) (hD : va_D A (ow cI cL ad σ)) (hS : va_S A H0 H locs) (hA : ∀ q, H0.size ≤ q → A q) (hsz : ls.size = nL) (hW : (rest.map fun v => v.category).sum ≤ 8) (hcs : cells ≤ R.cells ∧ slots ≤ R.slots) (hdg : decode cc pc = .ok (.invokevirtual index, 3)) (kk : ∀ (H1 : Heap) (locs1 : List Loc), va_P D vwCl (ow cI cL ad (se_n σ q)) H1 → va_D A (ow cI cL ad (se_n σ q)) → va_S A H0 H1 locs1 → W p l e R s m args below meth c H1 locs1 cells slots Q (F0 m (pc + 3) ls (rest))) : W p l e R s m args below meth c H locs cells slots Q (F0 m pc ls (.ref (ad 7) :: rest)) :=
  ok_VM (As := []) F (c_Se_toNextNumber σ hq hq5) 0 (tt_V hG i_Se_toNextNumber l_Se_toNextNumber in9_Se k_Se_toNextNumber) rfl ⟨rfl, rfl⟩ (by decide +kernel) hR hK hP hD hS hA (7) 3 rfl rfl ow_7 rfl hsz rfl hW hcs hdg kk
set_option maxHeartbeats 4000000 in
set_option maxRecDepth 100000 in
theorem c_Se_begin (σ : oS) {r : Nat} {u : Nat} (h_r : σ 9 0 0 = nI r) (h_u : σ 10 0 0 = nI u) (hr4 : r ≤ 4) (hu4 : u ≤ 4) {n : Nat} (hn : σ 2 0 0 = nI n) (hn9 : n ≤ 5) : ok_MM l y_Se_begin (Cond.code y_Se_begin b_Se_begin 3 none :: tt) { frames := 4, cells := 0, slots := 0, locals := 89 } D vwCl (ot cI cL) (ow cI cL ad σ) (ow cI cL ad (se_b σ n r u)) [.ref (ad 7)] none := by
  refine ok_startM (cc := b_Se_begin) (own := RSe) (maxL := 3) (ret := none) (by decide +kernel) rfl rfl (Nat.le_of_ble_eq_true rfl) ?_
  intro p e s m below meth c A F hr hlk hA hP hK hD hS ls hl
  have hl : lv_has ls 3 [(0, .ref (ad 7))] := hl
  have hx := F.1
  have hb := F.2.1
  have lp : ∀ q : Nat, q ≤ n → ∀ (x : Int32), x = nI q - 1 → ∀ (H : Heap) (locs : List Loc), va_P D vwCl (ow cI cL ad (se_h σ n q)) H → va_D A (ow cI cL ad (se_h σ n q)) → va_S A s.heap H locs → ∀ ls : Array Slot, lv_has ls 3 [(2, .int x), (1, .int (σ 2 0 0)), (0, .ref (ad 7))] → W p l e { frames := 4, cells := 0, slots := 0, locals := 89 } s m ([.ref (ad 7)] : List Value).toArray below meth c H locs 0 0 (MQ below (ok_qA D vwCl A (ow cI cL ad (se_b σ n r u)) none) ([.ref (ad 7)] : List Value).toArray s 0 0 A) (F0 m 19 ls []) := by
    intro q
    induction q with
    | zero =>
      intro h1 x hx9 H locs hP hD hS ls hl
      refine lv_iload_n hx hb d_Se_begin_19 rfl (lv_at hl 0 rfl) ?_
      refine lv_if_lt (tgt := 65) hx hb d_Se_begin_20 (by decide) (fun c1 => ?_) (fun c1 => ?_)
      · refine lv_aload_n hx hb d_Se_begin_65 rfl (lv_at hl 2 rfl) ?_
        refine gf_Se_lines F hK hP d_Se_begin_66 ?_
        refine lv_aload_n hx hb d_Se_begin_69 rfl (lv_at hl 2 rfl) ?_
        refine gf_Se_columns F hK hP d_Se_begin_70 ?_
        refine x_Ls_beginSums (r := r) (u := u) (by rw [se_h_c (by decide)]; exact h_r) (by rw [se_h_c (by decide)]; exact h_u) hr4 hu4 (n := n) (by rw [se_h_c (by decide)]; exact hn) hn9 F (tt2 104 rfl rfl) ⟨Nat.le_of_ble_eq_true rfl, Nat.le_of_ble_eq_true rfl⟩ hK hP hD hS hA hl.1 (Nat.le_of_ble_eq_true rfl) ⟨Nat.zero_le _, Nat.zero_le _⟩ d_Se_begin_73 (fun H locs hP hD hS => ?_)
        refine lv_aload_n hx hb d_Se_begin_76 rfl (lv_at hl 2 rfl) ?_
        refine gf_Se_worths F hK hP d_Se_begin_77 ?_
        refine lv_iconst (v := 0) hx hb d_Se_begin_80 (by decide) ?_
        refine lv_iconst (v := 0) hx hb d_Se_begin_81 (by decide) ?_
        refine sa_13 (j := 0) F hK hP hD hS (by decide) (by omega) d_Se_begin_82 (fun H locs hP hD hS => ?_)
        refine lv_aload_n hx hb d_Se_begin_83 rfl (lv_at hl 2 rfl) ?_
        refine lv_iconst (v := 0) hx hb d_Se_begin_84 (by decide) ?_
        refine pf_Se_steps F hK hP hD hS d_Se_begin_85 (fun H locs hP hD hS => ?_)
        refine lv_aload_n hx hb d_Se_begin_88 rfl (lv_at hl 2 rfl) ?_
        refine lv_iconst (v := 0) hx hb d_Se_begin_89 (by decide) ?_
        refine pf_Se_found F hK hP hD hS (by rfl) (by rfl) d_Se_begin_90 (fun H locs hP hD hS => ?_)
        refine lv_aload_n hx hb d_Se_begin_93 rfl (lv_at hl 2 rfl) ?_
        refine lv_iconst (v := 0) hx hb d_Se_begin_94 (by decide) ?_
        refine pf_Se_at F hK hP hD hS d_Se_begin_95 (fun H locs hP hD hS => ?_)
        refine lv_aload_n hx hb d_Se_begin_98 rfl (lv_at hl 2 rfl) ?_
        refine gf_Se_numbers F hK hP d_Se_begin_99 ?_
        refine lv_iconst (v := 0) hx hb d_Se_begin_102 (by decide) ?_
        refine lv_aload_n hx hb d_Se_begin_103 rfl (lv_at hl 2 rfl) ?_
        refine gf_Se_columns F hK hP d_Se_begin_104 ?_
        refine lv_iconst (v := 0) hx hb d_Se_begin_107 (by decide) ?_
        refine x_Co_top (j := 0) (by decide) (by omega) F (tt2 102 rfl rfl) ⟨Nat.le_of_ble_eq_true rfl, Nat.le_of_ble_eq_true rfl⟩ hK hP hl.1 (Nat.le_of_ble_eq_true rfl) ⟨Nat.zero_le _, Nat.zero_le _⟩ d_Se_begin_108 ?_
        refine sa_11 (j := 0) F hK hP hD hS (by decide) (by omega) d_Se_begin_111 (fun H locs hP hD hS => ?_)
        have ew : u3 (u3 (u3 (u3 (u3 (ls_b (se_h σ n 0) r n (r + u)) 13 0 0 0) 16 0 0 0) 17 0 0 0) 15 0 0 0) 11 0 0 ((u3 (u3 (u3 (u3 (ls_b (se_h σ n 0) r n (r + u)) 13 0 0 0) 16 0 0 0) 17 0 0 0) 15 0 0 0) 1 0 0) = se_b σ n r u := by unfold se_b; congr 1; simp [u3_at, ls_b_c, se_h_c]
        rw [ew] at hP hD
        clear ew
        exact ok_vretM F hr hlk hP hD hS d_Se_begin_112
      · exact absurd (by rw [hx9]; decide) c1
    | succ q ih =>
      intro h1 x hx9 H locs hP hD hS ls hl
      rw [nI_pred] at hx9
      refine lv_iload_n hx hb d_Se_begin_19 rfl (lv_at hl 0 rfl) ?_
      refine lv_if_lt (tgt := 65) hx hb d_Se_begin_20 (by decide) (fun c2 => ?_) (fun c2 => ?_)
      · exact absurd c2 (by rw [hx9]; exact nI_pos (by omega))
      · refine lv_aload_n hx hb d_Se_begin_23 rfl (lv_at hl 2 rfl) ?_
        refine gf_Se_hopes F hK hP d_Se_begin_24 ?_
        refine lv_iload_n hx hb d_Se_begin_27 rfl (lv_at hl 0 rfl) ?_
        refine lv_aload_n hx hb d_Se_begin_28 rfl (lv_at hl 2 rfl) ?_
        refine gf_Se_hopes F hK hP d_Se_begin_29 ?_
        refine lv_iload_n hx hb d_Se_begin_32 rfl (lv_at hl 0 rfl) ?_
        refine lv_iconst (v := 1) hx hb d_Se_begin_33 (by decide) ?_
        refine lv_iadd hx hb d_Se_begin_34 ?_
        refine ia_14 (j := (q + 1)) F hK hP (by rw [hx9]; exact nI_1 _) (by omega) d_Se_begin_35 ?_
        refine lv_aload_n hx hb d_Se_begin_36 rfl (lv_at hl 2 rfl) ?_
        refine gf_Se_columns F hK hP d_Se_begin_37 ?_
        refine lv_iload_n hx hb d_Se_begin_40 rfl (lv_at hl 0 rfl) ?_
        refine x_Co_worth (j := q) hx9 (by omega) F (tt2 101 rfl rfl) ⟨Nat.le_of_ble_eq_true rfl, Nat.le_of_ble_eq_true rfl⟩ hK hP hl.1 (Nat.le_of_ble_eq_true rfl) ⟨Nat.zero_le _, Nat.zero_le _⟩ d_Se_begin_41 ?_
        refine lv_aload_n hx hb d_Se_begin_44 rfl (lv_at hl 2 rfl) ?_
        refine gf_Se_columns F hK hP d_Se_begin_45 ?_
        refine lv_iload_n hx hb d_Se_begin_48 rfl (lv_at hl 0 rfl) ?_
        refine x_Co_top (j := q) hx9 (by omega) F (tt2 102 rfl rfl) ⟨Nat.le_of_ble_eq_true rfl, Nat.le_of_ble_eq_true rfl⟩ hK hP hl.1 (Nat.le_of_ble_eq_true rfl) ⟨Nat.zero_le _, Nat.zero_le _⟩ d_Se_begin_49 ?_
        refine lv_imul hx hb d_Se_begin_52 ?_
        refine lv_iconst (v := 0) hx hb d_Se_begin_53 (by decide) ?_
        refine ok_mmax F (List.mem_cons_of_mem _ (tt2 103 rfl rfl)) hl.1 (Nat.le_of_ble_eq_true rfl) (Nat.le_of_ble_eq_true rfl) (Nat.zero_le _) (Nat.zero_le _) d_Se_begin_54 ?_
        refine lv_iadd hx hb d_Se_begin_57 ?_
        refine sa_14 (j := q) F hK hP hD hS hx9 (by omega) d_Se_begin_58 (fun H locs hP hD hS => ?_)
        refine lv_iinc (v := x + (-1)) (lv' := [(2, .int (x + (-1))), (1, .int (σ 2 0 0)), (0, .ref (ad 7))]) hx hb d_Se_begin_59 hl (k := 0) rfl (by rw [litm1]) (by decide) rfl (fun ls hl => ?_)
        refine lv_goto (tgt := 19) hx hb d_Se_begin_62 (by decide) ?_
        have ew : u3 (se_h σ n (q + 1)) 14 0 q (((se_h σ n (q + 1)) 14 0 (q + 1)) + (if (((se_h σ n (q + 1)) 0 0 q) * ((se_h σ n (q + 1)) 1 0 q)) < 0 then 0 else (((se_h σ n (q + 1)) 0 0 q) * ((se_h σ n (q + 1)) 1 0 q)))) = se_h σ n q := by exact se_h_step (by omega)
        rw [ew] at hP hD
        clear ew
        exact ih (by omega) _ (by rw [hx9, Int32.sub_eq_add_neg]) H locs hP hD hS ls (lv_sub hl [0, 1, 2] rfl)
  refine lv_aload_n hx hb d_Se_begin_0 rfl (lv_at hl 0 rfl) ?_
  refine gf_Se_columns F hK hP d_Se_begin_1 ?_
  refine x_Co_count F (tt2 100 rfl rfl) ⟨Nat.le_of_ble_eq_true rfl, Nat.le_of_ble_eq_true rfl⟩ hK hP hl.1 (Nat.le_of_ble_eq_true rfl) ⟨Nat.zero_le _, Nat.zero_le _⟩ d_Se_begin_4 ?_
  refine lv_istore_n (lv' := [(1, .int (σ 2 0 0)), (0, .ref (ad 7))]) hx hb d_Se_begin_7 rfl hl (by decide) rfl (fun ls hl => ?_)
  refine lv_aload_n hx hb d_Se_begin_8 rfl (lv_at hl 1 rfl) ?_
  refine gf_Se_hopes F hK hP d_Se_begin_9 ?_
  refine lv_iload_n hx hb d_Se_begin_12 rfl (lv_at hl 0 rfl) ?_
  refine lv_iconst (v := 0) hx hb d_Se_begin_13 (by decide) ?_
  refine sa_14 (j := n) F hK hP hD hS hn (by omega) d_Se_begin_14 (fun H locs hP hD hS => ?_)
  refine lv_iload_n hx hb d_Se_begin_15 rfl (lv_at hl 0 rfl) ?_
  refine lv_iconst (v := 1) hx hb d_Se_begin_16 (by decide) ?_
  refine lv_isub hx hb d_Se_begin_17 ?_
  refine lv_istore_n (lv' := [(2, .int ((σ 2 0 0) - 1)), (1, .int (σ 2 0 0)), (0, .ref (ad 7))]) hx hb d_Se_begin_18 rfl hl (by decide) rfl (fun ls hl => ?_)
  rw [se_h_0] at hP hD
  exact lp n (by omega) _ (by rw [hn]) H locs hP hD hS ls (lv_sub hl [0, 1, 2] rfl)
theorem x_Se_begin {σ : oS} {r : Nat} {u : Nat} (h_r : σ 9 0 0 = nI r) (h_u : σ 10 0 0 = nI u) (hr4 : r ≤ 4) (hu4 : u ≤ 4) {n : Nat} (hn : σ 2 0 0 = nI n) (hn9 : n ≤ 5) (F : CallFix p m c cc nL s args (cw :: tt) own) (hG : Cond.methodLink own index y_Se_begin ∈ tt) (hR : 4 + 1 ≤ R.frames ∧ 8 + (3 + 11) + 89 ≤ R.locals) (hK : va_K D vwCl (ot cI cL) s) (hP : va_P D vwCl (ow cI cL ad σ) H) (hD : va_D A (ow cI cL ad σ)) (hS : va_S A H0 H locs) (hA : ∀ q, H0.size ≤ q → A q) (hsz : ls.size = nL) (hW : (rest.map fun v => v.category).sum ≤ 8) (hcs : cells ≤ R.cells ∧ slots ≤ R.slots) (hdg : decode cc pc = .ok (.invokevirtual index, 3)) (kk : ∀ (H1 : Heap) (locs1 : List Loc), va_P D vwCl (ow cI cL ad (se_b σ n r u)) H1 → va_D A (ow cI cL ad (se_b σ n r u)) → va_S A H0 H1 locs1 → W p l e R s m args below meth c H1 locs1 cells slots Q (F0 m (pc + 3) ls (rest))) : W p l e R s m args below meth c H locs cells slots Q (F0 m pc ls (.ref (ad 7) :: rest)) :=
  ok_VM (As := []) F (c_Se_begin σ h_r h_u hr4 hu4 hn hn9) 0 (tt_V hG i_Se_begin l_Se_begin in9_Se k_Se_begin) rfl ⟨rfl, rfl⟩ (by decide +kernel) hR hK hP hD hS hA (7) 3 rfl rfl ow_7 rfl hsz rfl hW hcs hdg kk
set_option maxHeartbeats 4000000 in
set_option maxRecDepth 100000 in
theorem c_Se_endWithoutColumns (σ : oS) {r : Nat} {u : Nat} (h_r : σ 9 0 0 = nI r) (h_u : σ 10 0 0 = nI u) (hr4 : r ≤ 4) (hu4 : u ≤ 4) : ok_MM l y_Se_endWithoutColumns (Cond.code y_Se_endWithoutColumns b_Se_endWithoutColumns 1 none :: tt) { frames := 2, cells := 0, slots := 0, locals := 42 } D vwCl (ot cI cL) (ow cI cL ad σ) (ow cI cL ad (se_0 σ r u)) [.ref (ad 7)] none := by
  refine ok_startM (cc := b_Se_endWithoutColumns) (own := RSe) (maxL := 1) (ret := none) (by decide +kernel) rfl rfl (Nat.le_of_ble_eq_true rfl) ?_
  intro p e s m below meth c A F hr hlk hA hP hK hD hS ls hl
  have hl : lv_has ls 1 [(0, .ref (ad 7))] := hl
  have hx := F.1
  have hb := F.2.1
  refine lv_aload_n hx hb d_Se_endWithoutColumns_0 rfl (lv_at hl 0 rfl) ?_
  refine lv_aload_n hx hb d_Se_endWithoutColumns_1 rfl (lv_at hl 0 rfl) ?_
  refine gf_Se_lines F hK hP d_Se_endWithoutColumns_2 ?_
  refine x_Ls_holdWithoutColumns (r := r) (u := u) h_r h_u hr4 hu4 F (tt3 0 rfl rfl) ⟨Nat.le_of_ble_eq_true rfl, Nat.le_of_ble_eq_true rfl⟩ hK hP hl.1 (Nat.le_of_ble_eq_true rfl) ⟨Nat.zero_le _, Nat.zero_le _⟩ d_Se_endWithoutColumns_5 ?_
  refine pf_Se_found F hK hP hD hS (by split <;> rfl) (by split <;> rfl) d_Se_endWithoutColumns_8 (fun H locs hP hD hS => ?_)
  refine lv_aload_n hx hb d_Se_endWithoutColumns_11 rfl (lv_at hl 0 rfl) ?_
  refine lv_iconst (v := 0) hx hb d_Se_endWithoutColumns_12 (by decide) ?_
  refine pf_Se_bestWorth F hK hP hD hS d_Se_endWithoutColumns_13 (fun H locs hP hD hS => ?_)
  refine lv_aload_n hx hb d_Se_endWithoutColumns_16 rfl (lv_at hl 0 rfl) ?_
  refine lv_iconst (v := -1) hx hb d_Se_endWithoutColumns_17 (by decide) ?_
  refine pf_Se_at F hK hP hD hS d_Se_endWithoutColumns_18 (fun H locs hP hD hS => ?_)
  have ew : u3 (u3 (u3 σ 17 0 0 (if ls_0 σ r (r + u) = true then 1 else 0)) 18 0 0 0) 15 0 0 (-1) = se_0 σ r u := by rfl
  rw [ew] at hP hD
  clear ew
  exact ok_vretM F hr hlk hP hD hS d_Se_endWithoutColumns_21
theorem x_Se_endWithoutColumns {σ : oS} {r : Nat} {u : Nat} (h_r : σ 9 0 0 = nI r) (h_u : σ 10 0 0 = nI u) (hr4 : r ≤ 4) (hu4 : u ≤ 4) (F : CallFix p m c cc nL s args (cw :: tt) own) (hG : Cond.methodLink own index y_Se_endWithoutColumns ∈ tt) (hR : 2 + 1 ≤ R.frames ∧ 8 + (1 + 11) + 42 ≤ R.locals) (hK : va_K D vwCl (ot cI cL) s) (hP : va_P D vwCl (ow cI cL ad σ) H) (hD : va_D A (ow cI cL ad σ)) (hS : va_S A H0 H locs) (hA : ∀ q, H0.size ≤ q → A q) (hsz : ls.size = nL) (hW : (rest.map fun v => v.category).sum ≤ 8) (hcs : cells ≤ R.cells ∧ slots ≤ R.slots) (hdg : decode cc pc = .ok (.invokevirtual index, 3)) (kk : ∀ (H1 : Heap) (locs1 : List Loc), va_P D vwCl (ow cI cL ad (se_0 σ r u)) H1 → va_D A (ow cI cL ad (se_0 σ r u)) → va_S A H0 H1 locs1 → W p l e R s m args below meth c H1 locs1 cells slots Q (F0 m (pc + 3) ls (rest))) : W p l e R s m args below meth c H locs cells slots Q (F0 m pc ls (.ref (ad 7) :: rest)) :=
  ok_VM (As := []) F (c_Se_endWithoutColumns σ h_r h_u hr4 hu4) 0 (tt_V hG i_Se_endWithoutColumns l_Se_endWithoutColumns in9_Se k_Se_endWithoutColumns) rfl ⟨rfl, rfl⟩ (by decide +kernel) hR hK hP hD hS hA (7) 3 rfl rfl ow_7 rfl hsz rfl hW hcs hdg kk
end
end
section
-- steps
theorem se_1_c {σ : oS} {k c : Nat} (h1 : c ≠ 16) (h2 : c ≠ 13) : se_1 σ k c = σ c := by
  unfold se_1
  rw [u3_c h2, u3_c h1]
theorem ls_x_c {r j f k c : Nat} {y : Int32} {τ : oS} (h : c ≠ 7) : (ls_x r j y f k τ).1 c = τ c := by
  induction f generalizing k τ with
  | zero => rfl
  | succ f ih =>
    rw [ls_x]
    split
    · exact ls_t_c h
    · rw [ih, ls_t_c h]
theorem se_k_c {σ : oS} {n c : Nat} {x : Int32} (h1 : c ≠ 17) (h2 : c ≠ 18) (h3 : c ≠ 12) : se_k σ n x c = σ c := by
  unfold se_k
  funext i9
  rw [uA_n (fun q => h3 q.1), u3_c h2, u3_c h1]
theorem se_w_1 {σ : oS} {k : Nat} {x : Int32} : se_w (se_1 σ k) (x + se_1 σ k 14 0 (k + 1)) = se_w σ (x + σ 14 0 (k + 1)) := by
  unfold se_w
  rw [se_1_c (c := 17) (by decide) (by decide), se_1_c (c := 18) (by decide) (by decide), se_1_c (c := 14) (by decide) (by decide)]
def se_L (τ : oS) : Nat := (τ 15 0 0 + 1).toNatClampNeg
def se_g (n r u : Nat) : Nat → oS → oS
  | 0, τ => τ
  | f + 1, τ => if se_L τ = 0 then τ else se_g n r u f (se_s τ n r u (se_L τ - 1))
def se_G (σ : oS) (n r u f : Nat) : oS := se_g n r u f (if n = 0 then se_0 σ r u else σ)
def se_r (τ : oS) : Int32 := if τ 15 0 0 < 0 then (if τ 17 0 0 = 0 then 1 else 0) else 2
theorem se_L_of {τ : oS} {q : Nat} (h : τ 15 0 0 = nI q - 1) (hq : q ≤ 5) : se_L τ = q := by
  unfold se_L
  rw [h, show nI q - 1 + 1 = nI q by simp [Int32.sub_eq_add_neg, Int32.add_assoc]]
  exact nI_clamp (by omega)
theorem se_n_c {q c : Nat} {τ : oS} (h1 : c ≠ 15) (h2 : c ≠ 11) : se_n τ q c = τ c := by
  induction q generalizing τ with
  | zero => rfl
  | succ q ih =>
    rw [se_n]
    split
    · rw [ih, u3_c h1]
    · rw [u3_c h2]
theorem se_n_at {q : Nat} {τ : oS} (h : τ 15 0 0 = nI q - 1) : ∃ q' : Nat, q' ≤ q ∧ se_n τ q 15 0 0 = nI q' - 1 := by
  induction q generalizing τ with
  | zero => exact ⟨0, Nat.le_refl _, h⟩
  | succ q ih =>
    rw [se_n]
    split
    · obtain ⟨q', h1, h2⟩ := ih (τ := u3 τ 15 0 0 (nI q - 1)) u3_s
      exact ⟨q', by omega, h2⟩
    · exact ⟨q + 1, Nat.le_refl _, by rw [u3_c (by decide)]; exact h⟩
/-- what the search's loop keeps -/
def se_I (τ : oS) (n r u q : Nat) : Prop := τ 2 0 0 = nI n ∧ τ 9 0 0 = nI r ∧ τ 10 0 0 = nI u ∧ (τ 17 0 0 = 0 ∨ τ 17 0 0 = 1) ∧ τ 15 0 0 = nI q - 1
theorem se_s_I {τ : oS} {n r u k : Nat} (hk : k < n) (h : se_I τ n r u (k + 1)) : ∃ q : Nat, q ≤ n ∧ se_I (se_s τ n r u k) n r u q := by
  obtain ⟨h1, h2, h3, h4, h5⟩ := h
  have e1 : ∀ c, c ≠ 16 → c ≠ 13 → se_1 τ k c = τ c := fun c a b => se_1_c a b
  have e2 : ∀ c, c ≠ 16 → c ≠ 13 → c ≠ 7 → (ls_x r k (τ 11 0 k) (r + u) 0 (se_1 τ k)).1 c = τ c := fun c a b d => by rw [ls_x_c d, e1 c a b]
  unfold se_s
  split
  · obtain ⟨q, a, b⟩ := se_n_at (q := k + 1) (τ := se_1 τ k) (by rw [e1 15 (by decide) (by decide)]; exact h5)
    exact ⟨q, by omega, by rw [se_n_c (by decide) (by decide), e1 2 (by decide) (by decide)]; exact h1, by rw [se_n_c (by decide) (by decide), e1 9 (by decide) (by decide)]; exact h2, by rw [se_n_c (by decide) (by decide), e1 10 (by decide) (by decide)]; exact h3, by rw [se_n_c (by decide) (by decide), e1 17 (by decide) (by decide)]; exact h4, b⟩
  · split
    · obtain ⟨q, a, b⟩ := se_n_at (q := k + 1) (τ := (ls_x r k (τ 11 0 k) (r + u) 0 (se_1 τ k)).1) (by rw [e2 15 (by decide) (by decide) (by decide)]; exact h5)
      exact ⟨q, by omega, by rw [se_n_c (by decide) (by decide), e2 2 (by decide) (by decide) (by decide)]; exact h1, by rw [se_n_c (by decide) (by decide), e2 9 (by decide) (by decide) (by decide)]; exact h2, by rw [se_n_c (by decide) (by decide), e2 10 (by decide) (by decide) (by decide)]; exact h3, by rw [se_n_c (by decide) (by decide), e2 17 (by decide) (by decide) (by decide)]; exact h4, b⟩
    · split
      · exact ⟨k + 2, by omega, by rw [u3_c (by decide), u3_c (by decide), e2 2 (by decide) (by decide) (by decide)]; exact h1, by rw [u3_c (by decide), u3_c (by decide), e2 9 (by decide) (by decide) (by decide)]; exact h2, by rw [u3_c (by decide), u3_c (by decide), e2 10 (by decide) (by decide) (by decide)]; exact h3, by rw [u3_c (by decide), u3_c (by decide), e2 17 (by decide) (by decide) (by decide)]; exact h4, by rw [u3_c (by decide), u3_s]; exact (nI_pred (k + 1)).symm⟩
      · have e3 : ∀ c, c ≠ 16 → c ≠ 13 → c ≠ 7 → c ≠ 17 → c ≠ 18 → c ≠ 12 → se_k (ls_x r k (τ 11 0 k) (r + u) 0 (se_1 τ k)).1 n (τ 13 0 k + τ 0 0 k * τ 11 0 k) c = τ c := fun c a b d a1 a2 a3 => by rw [se_k_c a1 a2 a3, e2 c a b d]
        obtain ⟨q, a, b⟩ := se_n_at (q := k + 1) (τ := se_k (ls_x r k (τ 11 0 k) (r + u) 0 (se_1 τ k)).1 n (τ 13 0 k + τ 0 0 k * τ 11 0 k)) (by rw [e3 15 (by decide) (by decide) (by decide) (by decide) (by decide) (by decide)]; exact h5)
        exact ⟨q, by omega, by rw [se_n_c (by decide) (by decide), e3 2 (by decide) (by decide) (by decide) (by decide) (by decide) (by decide)]; exact h1, by rw [se_n_c (by decide) (by decide), e3 9 (by decide) (by decide) (by decide) (by decide) (by decide) (by decide)]; exact h2, by rw [se_n_c (by decide) (by decide), e3 10 (by decide) (by decide) (by decide) (by decide) (by decide) (by decide)]; exact h3, Or.inr (by rw [se_n_c (by decide) (by decide)]; simp [se_k, uA, u3_at, u3, upd]), b⟩
section
variable {l : Launch} {D : va_G} {cI cL : ClassId} {ad : Nat → Nat}
variable {p : Program} {e : Env} {R : Room} {s : State} {m : MethodId} {args : Array Value} {below : List Frame} {meth : Method} {c : Code} {H : Heap} {locs : List Loc} {cells slots : Nat} {Q : State → Prop} {cc : ByteArray} {pc nL index : Nat} {ls : Array Slot} {rest : List Value} {A : Nat → Prop} {H0 : Heap} {cw : Cond} {own : String}
set_option maxHeartbeats 4000000 in
set_option maxRecDepth 100000 in
theorem c_Se_step (σ : oS) {r : Nat} {u : Nat} (h_r : σ 9 0 0 = nI r) (h_u : σ 10 0 0 = nI u) (hr4 : r ≤ 4) (hu4 : u ≤ 4) {n : Nat} (hn : σ 2 0 0 = nI n) (hn9 : n ≤ 5) {k : Nat} (hk : σ 15 0 0 = nI k) (hkn : k < n) (hfo : σ 17 0 0 = 0 ∨ σ 17 0 0 = 1) : ok_MM l y_Se_step (Cond.code y_Se_step b_Se_step 3 none :: tt) { frames := 3, cells := 0, slots := 0, locals := 67 } D vwCl (ot cI cL) (ow cI cL ad σ) (ow cI cL ad (se_s σ n r u k)) [.ref (ad 7)] none := by
  refine ok_startM (cc := b_Se_step) (own := RSe) (maxL := 3) (ret := none) (by decide +kernel) rfl rfl (Nat.le_of_ble_eq_true rfl) ?_
  intro p e s m below meth c A F hr hlk hA hP hK hD hS ls hl
  have hl : lv_has ls 3 [(0, .ref (ad 7))] := hl
  have hx := F.1
  have hb := F.2.1
  refine lv_aload_n hx hb d_Se_step_0 rfl (lv_at hl 0 rfl) ?_
  refine gf_Se_numbers F hK hP d_Se_step_1 ?_
  refine lv_aload_n hx hb d_Se_step_4 rfl (lv_at hl 0 rfl) ?_
  refine gf_Se_at F hK hP d_Se_step_5 ?_
  refine ia_11 (j := k) F hK hP hk (by omega) d_Se_step_8 ?_
  refine lv_istore_n (lv' := [(1, .int (σ 11 0 k)), (0, .ref (ad 7))]) hx hb d_Se_step_9 rfl hl (by decide) rfl (fun ls hl => ?_)
  refine lv_aload_n hx hb d_Se_step_10 rfl (lv_at hl 1 rfl) ?_
  refine gf_Se_worths F hK hP d_Se_step_11 ?_
  refine lv_aload_n hx hb d_Se_step_14 rfl (lv_at hl 1 rfl) ?_
  refine gf_Se_at F hK hP d_Se_step_15 ?_
  refine ia_13 (j := k) F hK hP hk (by omega) d_Se_step_18 ?_
  refine lv_aload_n hx hb d_Se_step_19 rfl (lv_at hl 1 rfl) ?_
  refine gf_Se_columns F hK hP d_Se_step_20 ?_
  refine lv_aload_n hx hb d_Se_step_23 rfl (lv_at hl 1 rfl) ?_
  refine gf_Se_at F hK hP d_Se_step_24 ?_
  refine x_Co_worth (j := k) hk (by omega) F (tt2 101 rfl rfl) ⟨Nat.le_of_ble_eq_true rfl, Nat.le_of_ble_eq_true rfl⟩ hK hP hl.1 (Nat.le_of_ble_eq_true rfl) ⟨Nat.zero_le _, Nat.zero_le _⟩ d_Se_step_27 ?_
  refine lv_iload_n hx hb d_Se_step_30 rfl (lv_at hl 0 rfl) ?_
  refine lv_imul hx hb d_Se_step_31 ?_
  refine lv_iadd hx hb d_Se_step_32 ?_
  refine lv_istore_n (lv' := [(2, .int ((σ 13 0 k) + ((σ 0 0 k) * (σ 11 0 k)))), (1, .int (σ 11 0 k)), (0, .ref (ad 7))]) hx hb d_Se_step_33 rfl hl (by decide) rfl (fun ls hl => ?_)
  refine lv_aload_n hx hb d_Se_step_34 rfl (lv_at hl 2 rfl) ?_
  refine lv_dup hx hb d_Se_step_35 rfl ?_
  refine gf_Se_steps F hK hP d_Se_step_36 ?_
  refine lv_iconst (v := 1) hx hb d_Se_step_39 (by decide) ?_
  refine lv_iadd hx hb d_Se_step_40 ?_
  refine pf_Se_steps F hK hP hD hS d_Se_step_41 (fun H locs hP hD hS => ?_)
  refine lv_aload_n hx hb d_Se_step_44 rfl (lv_at hl 2 rfl) ?_
  refine gf_Se_worths F hK hP d_Se_step_45 ?_
  refine lv_aload_n hx hb d_Se_step_48 rfl (lv_at hl 2 rfl) ?_
  refine gf_Se_at F hK hP d_Se_step_49 ?_
  refine lv_iconst (v := 1) hx hb d_Se_step_52 (by decide) ?_
  refine lv_iadd hx hb d_Se_step_53 ?_
  refine lv_iload_n hx hb d_Se_step_54 rfl (lv_at hl 0 rfl) ?_
  refine sa_13 (j := (k + 1)) F hK hP hD hS (by rw [u3_c (by decide), hk, nI_1]) (by omega) d_Se_step_55 (fun H locs hP hD hS => ?_)
  have ew : u3 (u3 σ 16 0 0 ((σ 16 0 0) + 1)) 13 0 (k + 1) ((σ 13 0 k) + ((σ 0 0 k) * (σ 11 0 k))) = se_1 σ k := by rfl
  rw [ew] at hP hD
  clear ew
  refine lv_aload_n hx hb d_Se_step_56 rfl (lv_at hl 2 rfl) ?_
  refine lv_iload_n hx hb d_Se_step_57 rfl (lv_at hl 0 rfl) ?_
  refine lv_aload_n hx hb d_Se_step_58 rfl (lv_at hl 2 rfl) ?_
  refine gf_Se_hopes F hK hP d_Se_step_59 ?_
  refine lv_aload_n hx hb d_Se_step_62 rfl (lv_at hl 2 rfl) ?_
  refine gf_Se_at F hK hP d_Se_step_63 ?_
  refine lv_iconst (v := 1) hx hb d_Se_step_66 (by decide) ?_
  refine lv_iadd hx hb d_Se_step_67 ?_
  refine ia_14 (j := (k + 1)) F hK hP (by rw [se_1_c (by decide) (by decide), hk, nI_1]) (by omega) d_Se_step_68 ?_
  refine lv_iadd hx hb d_Se_step_69 ?_
  refine x_Se_isWorthwhile F (tt3 9 rfl rfl) ⟨Nat.le_of_ble_eq_true rfl, Nat.le_of_ble_eq_true rfl⟩ hK hP hl.1 (Nat.le_of_ble_eq_true rfl) ⟨Nat.zero_le _, Nat.zero_le _⟩ d_Se_step_70 ?_
  refine lv_if_eq (tgt := 91) hx hb d_Se_step_73 (by decide) (fun c1 => ?_) (fun c1 => ?_)
  · rw [se_w_1] at c1
    refine lv_aload_n hx hb d_Se_step_91 rfl (lv_at hl 2 rfl) ?_
    refine x_Se_toNextNumber (q := (k + 1)) (by rw [se_1_c (by decide) (by decide), hk, nI_pred]) (by omega) F (tt3 21 rfl rfl) ⟨Nat.le_of_ble_eq_true rfl, Nat.le_of_ble_eq_true rfl⟩ hK hP hD hS hA hl.1 (Nat.le_of_ble_eq_true rfl) ⟨Nat.zero_le _, Nat.zero_le _⟩ d_Se_step_92 (fun H locs hP hD hS => ?_)
    refine lv_goto (tgt := 156) hx hb d_Se_step_95 (by decide) ?_
    have ew : se_n (se_1 σ k) (k + 1) = se_s σ n r u k := by rw [se_s, if_pos c1]
    rw [ew] at hP hD
    clear ew
    exact ok_vretM F hr hlk hP hD hS d_Se_step_156
  · rw [se_w_1] at c1
    refine lv_aload_n hx hb d_Se_step_76 rfl (lv_at hl 2 rfl) ?_
    refine gf_Se_lines F hK hP d_Se_step_77 ?_
    refine lv_aload_n hx hb d_Se_step_80 rfl (lv_at hl 2 rfl) ?_
    refine gf_Se_at F hK hP d_Se_step_81 ?_
    refine lv_iload_n hx hb d_Se_step_84 rfl (lv_at hl 1 rfl) ?_
    refine x_Ls_stillHold (r := r) (u := u) (by rw [se_1_c (by decide) (by decide)]; exact h_r) (by rw [se_1_c (by decide) (by decide)]; exact h_u) hr4 hu4 (j := k) (by rw [se_1_c (by decide) (by decide)]; exact hk) (by omega) F (tt3 13 rfl rfl) ⟨Nat.le_of_ble_eq_true rfl, Nat.le_of_ble_eq_true rfl⟩ hK hP hD hS hA hl.1 (Nat.le_of_ble_eq_true rfl) ⟨Nat.zero_le _, Nat.zero_le _⟩ d_Se_step_85 (fun H locs hP hD hS => ?_)
    refine lv_if_ne (tgt := 98) hx hb d_Se_step_88 (by decide) (fun c2 => ?_) (fun c2 => ?_)
    · refine lv_aload_n hx hb d_Se_step_98 rfl (lv_at hl 2 rfl) ?_
      refine gf_Se_at F hK hP d_Se_step_99 ?_
      refine lv_iconst (v := 1) hx hb d_Se_step_102 (by decide) ?_
      refine lv_iadd hx hb d_Se_step_103 ?_
      refine lv_aload_n hx hb d_Se_step_104 rfl (lv_at hl 2 rfl) ?_
      refine gf_Se_columns F hK hP d_Se_step_105 ?_
      refine x_Co_count F (tt2 100 rfl rfl) ⟨Nat.le_of_ble_eq_true rfl, Nat.le_of_ble_eq_true rfl⟩ hK hP hl.1 (Nat.le_of_ble_eq_true rfl) ⟨Nat.zero_le _, Nat.zero_le _⟩ d_Se_step_108 ?_
      refine lv_icmp_ge (tgt := 147) hx hb d_Se_step_111 (by decide) (fun c3 => ?_) (fun c3 => ?_)
      · rw [ls_x_c (by decide), ls_x_c (by decide), se_1_c (by decide) (by decide), se_1_c (by decide) (by decide), hn, hk, nI_1, nI_leI (by omega) (by omega)] at c3
        refine lv_aload_n hx hb d_Se_step_147 rfl (lv_at hl 2 rfl) ?_
        refine lv_iload_n hx hb d_Se_step_148 rfl (lv_at hl 0 rfl) ?_
        refine x_Se_keep (n := n) (by rw [ls_x_c (by decide), se_1_c (by decide) (by decide)]; exact hn) hn9 F (tt3 25 rfl rfl) ⟨Nat.le_of_ble_eq_true rfl, Nat.le_of_ble_eq_true rfl⟩ hK hP hD hS hA hl.1 (Nat.le_of_ble_eq_true rfl) ⟨Nat.zero_le _, Nat.zero_le _⟩ d_Se_step_149 (fun H locs hP hD hS => ?_)
        refine lv_aload_n hx hb d_Se_step_152 rfl (lv_at hl 2 rfl) ?_
        refine x_Se_toNextNumber (q := (k + 1)) (by rw [se_k_c (by decide) (by decide) (by decide), ls_x_c (by decide), se_1_c (by decide) (by decide), hk, nI_pred]) (by omega) F (tt3 21 rfl rfl) ⟨Nat.le_of_ble_eq_true rfl, Nat.le_of_ble_eq_true rfl⟩ hK hP hD hS hA hl.1 (Nat.le_of_ble_eq_true rfl) ⟨Nat.zero_le _, Nat.zero_le _⟩ d_Se_step_153 (fun H locs hP hD hS => ?_)
        have ew : se_n (se_k ((ls_x r k (σ 11 0 k) (r + u) 0 (se_1 σ k)).1) n ((σ 13 0 k) + ((σ 0 0 k) * (σ 11 0 k)))) (k + 1) = se_s σ n r u k := by rw [se_s, if_neg c1, if_neg c2, if_neg (by omega)]
        rw [ew] at hP hD
        clear ew
        exact ok_vretM F hr hlk hP hD hS d_Se_step_156
      · rw [ls_x_c (by decide), ls_x_c (by decide), se_1_c (by decide) (by decide), se_1_c (by decide) (by decide), hn, hk, nI_1, nI_leI (by omega) (by omega)] at c3
        refine lv_aload_n hx hb d_Se_step_114 rfl (lv_at hl 2 rfl) ?_
        refine lv_dup hx hb d_Se_step_115 rfl ?_
        refine gf_Se_at F hK hP d_Se_step_116 ?_
        refine lv_iconst (v := 1) hx hb d_Se_step_119 (by decide) ?_
        refine lv_iadd hx hb d_Se_step_120 ?_
        refine pf_Se_at F hK hP hD hS d_Se_step_121 (fun H locs hP hD hS => ?_)
        have ew : u3 ((ls_x r k (σ 11 0 k) (r + u) 0 (se_1 σ k)).1) 15 0 0 ((((ls_x r k (σ 11 0 k) (r + u) 0 (se_1 σ k)).1) 15 0 0) + 1) = u3 (ls_x r k (σ 11 0 k) (r + u) 0 (se_1 σ k)).1 15 0 0 (nI (k + 1)) := by rw [ls_x_c (by decide), se_1_c (by decide) (by decide), hk, nI_1]
        rw [ew] at hP hD
        clear ew
        refine lv_aload_n hx hb d_Se_step_124 rfl (lv_at hl 2 rfl) ?_
        refine gf_Se_numbers F hK hP d_Se_step_125 ?_
        refine lv_aload_n hx hb d_Se_step_128 rfl (lv_at hl 2 rfl) ?_
        refine gf_Se_at F hK hP d_Se_step_129 ?_
        refine lv_aload_n hx hb d_Se_step_132 rfl (lv_at hl 2 rfl) ?_
        refine gf_Se_columns F hK hP d_Se_step_133 ?_
        refine lv_aload_n hx hb d_Se_step_136 rfl (lv_at hl 2 rfl) ?_
        refine gf_Se_at F hK hP d_Se_step_137 ?_
        refine x_Co_top (j := (k + 1)) u3_s (by omega) F (tt2 102 rfl rfl) ⟨Nat.le_of_ble_eq_true rfl, Nat.le_of_ble_eq_true rfl⟩ hK hP hl.1 (Nat.le_of_ble_eq_true rfl) ⟨Nat.zero_le _, Nat.zero_le _⟩ d_Se_step_140 ?_
        refine sa_11 (j := (k + 1)) F hK hP hD hS u3_s (by omega) d_Se_step_143 (fun H locs hP hD hS => ?_)
        refine lv_goto (tgt := 156) hx hb d_Se_step_144 (by decide) ?_
        have ew : u3 (u3 (ls_x r k (σ 11 0 k) (r + u) 0 (se_1 σ k)).1 15 0 0 (nI (k + 1))) 11 0 (k + 1) ((u3 (ls_x r k (σ 11 0 k) (r + u) 0 (se_1 σ k)).1 15 0 0 (nI (k + 1))) 1 0 (k + 1)) = se_s σ n r u k := by rw [se_s, if_neg c1, if_neg c2, if_pos (by omega), u3_c (by decide), ls_x_c (by decide), se_1_c (by decide) (by decide)]
        rw [ew] at hP hD
        clear ew
        exact ok_vretM F hr hlk hP hD hS d_Se_step_156
    · refine lv_aload_n hx hb d_Se_step_91 rfl (lv_at hl 2 rfl) ?_
      refine x_Se_toNextNumber (q := (k + 1)) (by rw [ls_x_c (by decide), se_1_c (by decide) (by decide), hk, nI_pred]) (by omega) F (tt3 21 rfl rfl) ⟨Nat.le_of_ble_eq_true rfl, Nat.le_of_ble_eq_true rfl⟩ hK hP hD hS hA hl.1 (Nat.le_of_ble_eq_true rfl) ⟨Nat.zero_le _, Nat.zero_le _⟩ d_Se_step_92 (fun H locs hP hD hS => ?_)
      refine lv_goto (tgt := 156) hx hb d_Se_step_95 (by decide) ?_
      have ew : se_n ((ls_x r k (σ 11 0 k) (r + u) 0 (se_1 σ k)).1) (k + 1) = se_s σ n r u k := by rw [se_s, if_neg c1, if_pos c2]
      rw [ew] at hP hD
      clear ew
      exact ok_vretM F hr hlk hP hD hS d_Se_step_156
theorem x_Se_step {σ : oS} {r : Nat} {u : Nat} (h_r : σ 9 0 0 = nI r) (h_u : σ 10 0 0 = nI u) (hr4 : r ≤ 4) (hu4 : u ≤ 4) {n : Nat} (hn : σ 2 0 0 = nI n) (hn9 : n ≤ 5) {k : Nat} (hk : σ 15 0 0 = nI k) (hkn : k < n) (hfo : σ 17 0 0 = 0 ∨ σ 17 0 0 = 1) (F : CallFix p m c cc nL s args (cw :: tt) own) (hG : Cond.methodLink own index y_Se_step ∈ tt) (hR : 3 + 1 ≤ R.frames ∧ 8 + (3 + 11) + 67 ≤ R.locals) (hK : va_K D vwCl (ot cI cL) s) (hP : va_P D vwCl (ow cI cL ad σ) H) (hD : va_D A (ow cI cL ad σ)) (hS : va_S A H0 H locs) (hA : ∀ q, H0.size ≤ q → A q) (hsz : ls.size = nL) (hW : (rest.map fun v => v.category).sum ≤ 8) (hcs : cells ≤ R.cells ∧ slots ≤ R.slots) (hdg : decode cc pc = .ok (.invokevirtual index, 3)) (kk : ∀ (H1 : Heap) (locs1 : List Loc), va_P D vwCl (ow cI cL ad (se_s σ n r u k)) H1 → va_D A (ow cI cL ad (se_s σ n r u k)) → va_S A H0 H1 locs1 → W p l e R s m args below meth c H1 locs1 cells slots Q (F0 m (pc + 3) ls (rest))) : W p l e R s m args below meth c H locs cells slots Q (F0 m pc ls (.ref (ad 7) :: rest)) :=
  ok_VM (As := []) F (c_Se_step σ h_r h_u hr4 hu4 hn hn9 hk hkn hfo) 0 (tt_V hG i_Se_step l_Se_step in9_Se k_Se_step) rfl ⟨rfl, rfl⟩ (by decide +kernel) hR hK hP hD hS hA (7) 3 rfl rfl ow_7 rfl hsz rfl hW hcs hdg kk
set_option maxHeartbeats 4000000 in
set_option maxRecDepth 100000 in
theorem c_Se_goOn (σ : oS) {r : Nat} {u : Nat} (h_r : σ 9 0 0 = nI r) (h_u : σ 10 0 0 = nI u) (hr4 : r ≤ 4) (hu4 : u ≤ 4) {n : Nat} (hn : σ 2 0 0 = nI n) (hn9 : n ≤ 5) (hfo : σ 17 0 0 = 0 ∨ σ 17 0 0 = 1) {q : Nat} (hq : σ 15 0 0 = nI q - 1) (hqn : n ≠ 0 → q ≤ n) {x : Int32} {f : Nat} (hf : x = nI f) (hf9 : f < 100001) : ok_MM l y_Se_goOn (Cond.code y_Se_goOn b_Se_goOn 3 (some .int) :: tt) { frames := 4, cells := 0, slots := 0, locals := 89 } D vwCl (ot cI cL) (ow cI cL ad σ) (ow cI cL ad (se_G σ n r u f)) [.ref (ad 7), .int x] (some (.int (se_r (se_G σ n r u f)))) := by
  refine ok_startM (cc := b_Se_goOn) (own := RSe) (maxL := 3) (ret := (some .int)) (by decide +kernel) rfl rfl (Nat.le_of_ble_eq_true rfl) ?_
  intro p e s m below meth c A F hr hlk hA hP hK hD hS ls hl
  have hl : lv_has ls 3 [(0, .ref (ad 7)), (1, .int x)] := hl
  have hx := F.1
  have hb := F.2.1
  have lp : ∀ (d : Nat) (τ : oS) (v : Nat), d < 100001 → v ≤ n → se_I τ n r u v → se_G σ n r u f = se_g n r u d τ → ∀ (H : Heap) (locs : List Loc), va_P D vwCl (ow cI cL ad τ) H → va_D A (ow cI cL ad τ) → va_S A s.heap H locs → ∀ ls : Array Slot, lv_has ls 3 [(2, .int (nI d)), (0, .ref (ad 7)), (1, .int x)] → W p l e { frames := 4, cells := 0, slots := 0, locals := 89 } s m ([.ref (ad 7), .int x] : List Value).toArray below meth c H locs 0 0 (MQ below (ok_qA D vwCl A (ow cI cL ad (se_G σ n r u f)) (some (.int (se_r (se_G σ n r u f))))) ([.ref (ad 7), .int x] : List Value).toArray s 0 0 A) (F0 m 16 ls []) := by
    intro d
    induction d with
    | zero =>
      intro τ v hd hv hI heq H locs hP hD hS ls hl
      rw [se_g] at heq
      refine lv_iload_n hx hb d_Se_goOn_16 rfl (lv_at hl 0 rfl) ?_
      refine lv_if_le (tgt := 37) hx hb d_Se_goOn_17 (by decide) (fun c1 => ?_) (fun c1 => ?_)
      · refine lv_aload_n hx hb d_Se_goOn_37 rfl (lv_at hl 1 rfl) ?_
        refine gf_Se_at F hK hP d_Se_goOn_38 ?_
        refine lv_if_lt (tgt := 46) hx hb d_Se_goOn_41 (by decide) (fun c2 => ?_) (fun c2 => ?_)
        · refine lv_aload_n hx hb d_Se_goOn_46 rfl (lv_at hl 1 rfl) ?_
          refine gf_Se_found F hK hP d_Se_goOn_47 ?_
          refine lv_if_eq (tgt := 57) hx hb d_Se_goOn_50 (by decide) (fun c3 => ?_) (fun c3 => ?_)
          · refine lv_iconst (v := 1) hx hb d_Se_goOn_57 (by decide) ?_
            exact ok_iretM F hr hlk (by rw [heq]; exact hP) (by rw [heq]; exact hD) hS (by rw [heq]; first | (simp [se_r, c2, c3]; done) | exact absurd c2 c3) d_Se_goOn_58
          · refine lv_iconst (v := 0) hx hb d_Se_goOn_53 (by decide) ?_
            refine lv_goto (tgt := 58) hx hb d_Se_goOn_54 (by decide) ?_
            exact ok_iretM F hr hlk (by rw [heq]; exact hP) (by rw [heq]; exact hD) hS (by rw [heq]; first | (simp [se_r, c2, c3]; done) | exact absurd c2 c3) d_Se_goOn_58
        · refine lv_iconst (v := 2) hx hb d_Se_goOn_44 (by decide) ?_
          exact ok_iretM F hr hlk (by rw [heq]; exact hP) (by rw [heq]; exact hD) hS (by rw [heq]; first | (simp [se_r, c1, c2]; done) | exact absurd c1 c2) d_Se_goOn_45
      · exact absurd (by decide) c1
    | succ d ih =>
      intro τ v hd hv hI heq H locs hP hD hS ls hl
      obtain ⟨i1, i2, i3, i4, i5⟩ := id hI
      rw [se_g, se_L_of i5 (by omega)] at heq
      rcases v with _ | k
      · rw [if_pos rfl] at heq
        refine lv_iload_n hx hb d_Se_goOn_16 rfl (lv_at hl 0 rfl) ?_
        refine lv_if_le (tgt := 37) hx hb d_Se_goOn_17 (by decide) (fun c4 => ?_) (fun c4 => ?_)
        · exact absurd c4 (nI_nle (by omega) (by omega))
        · refine lv_aload_n hx hb d_Se_goOn_20 rfl (lv_at hl 1 rfl) ?_
          refine gf_Se_at F hK hP d_Se_goOn_21 ?_
          refine lv_if_lt (tgt := 37) hx hb d_Se_goOn_24 (by decide) (fun c5 => ?_) (fun c5 => ?_)
          · refine lv_aload_n hx hb d_Se_goOn_37 rfl (lv_at hl 1 rfl) ?_
            refine gf_Se_at F hK hP d_Se_goOn_38 ?_
            refine lv_if_lt (tgt := 46) hx hb d_Se_goOn_41 (by decide) (fun c6 => ?_) (fun c6 => ?_)
            · refine lv_aload_n hx hb d_Se_goOn_46 rfl (lv_at hl 1 rfl) ?_
              refine gf_Se_found F hK hP d_Se_goOn_47 ?_
              refine lv_if_eq (tgt := 57) hx hb d_Se_goOn_50 (by decide) (fun c7 => ?_) (fun c7 => ?_)
              · refine lv_iconst (v := 1) hx hb d_Se_goOn_57 (by decide) ?_
                exact ok_iretM F hr hlk (by rw [heq]; exact hP) (by rw [heq]; exact hD) hS (by rw [heq]; first | (simp [se_r, c6, c7]; done) | exact absurd c6 c7) d_Se_goOn_58
              · refine lv_iconst (v := 0) hx hb d_Se_goOn_53 (by decide) ?_
                refine lv_goto (tgt := 58) hx hb d_Se_goOn_54 (by decide) ?_
                exact ok_iretM F hr hlk (by rw [heq]; exact hP) (by rw [heq]; exact hD) hS (by rw [heq]; first | (simp [se_r, c6, c7]; done) | exact absurd c6 c7) d_Se_goOn_58
            · refine lv_iconst (v := 2) hx hb d_Se_goOn_44 (by decide) ?_
              exact ok_iretM F hr hlk (by rw [heq]; exact hP) (by rw [heq]; exact hD) hS (by rw [heq]; first | (simp [se_r, c5, c6]; done) | exact absurd c5 c6) d_Se_goOn_45
          · exact absurd (by rw [i5]; decide) c5
      · rw [if_neg (by omega), Nat.add_sub_cancel] at heq
        rw [nI_pred] at i5
        obtain ⟨q9, hq9, hI9⟩ := se_s_I (by omega) hI
        refine lv_iload_n hx hb d_Se_goOn_16 rfl (lv_at hl 0 rfl) ?_
        refine lv_if_le (tgt := 37) hx hb d_Se_goOn_17 (by decide) (fun c8 => ?_) (fun c8 => ?_)
        · exact absurd c8 (nI_nle (by omega) (by omega))
        · refine lv_aload_n hx hb d_Se_goOn_20 rfl (lv_at hl 1 rfl) ?_
          refine gf_Se_at F hK hP d_Se_goOn_21 ?_
          refine lv_if_lt (tgt := 37) hx hb d_Se_goOn_24 (by decide) (fun c9 => ?_) (fun c9 => ?_)
          · exact absurd c9 (by rw [i5]; exact nI_pos (by omega))
          · refine lv_aload_n hx hb d_Se_goOn_27 rfl (lv_at hl 1 rfl) ?_
            refine x_Se_step (r := r) (u := u) i2 i3 hr4 hu4 (n := n) i1 hn9 (k := k) i5 (by omega) i4 F (tt3 5 rfl rfl) ⟨Nat.le_of_ble_eq_true rfl, Nat.le_of_ble_eq_true rfl⟩ hK hP hD hS hA hl.1 (Nat.le_of_ble_eq_true rfl) ⟨Nat.zero_le _, Nat.zero_le _⟩ d_Se_goOn_28 (fun H locs hP hD hS => ?_)
            refine lv_iinc (v := (nI (d + 1)) + (-1)) (lv' := [(2, .int ((nI (d + 1)) + (-1))), (0, .ref (ad 7)), (1, .int x)]) hx hb d_Se_goOn_31 hl (k := 0) rfl (by rw [litm1]) (by decide) rfl (fun ls hl => ?_)
            refine lv_goto (tgt := 16) hx hb d_Se_goOn_34 (by decide) ?_
            rw [pk_m1] at hl
            exact ih _ q9 (by omega) hq9 hI9 heq H locs hP hD hS ls (lv_sub hl [0, 1, 2] rfl)
  refine lv_aload_n hx hb d_Se_goOn_0 rfl (lv_at hl 0 rfl) ?_
  refine gf_Se_columns F hK hP d_Se_goOn_1 ?_
  refine x_Co_count F (tt2 100 rfl rfl) ⟨Nat.le_of_ble_eq_true rfl, Nat.le_of_ble_eq_true rfl⟩ hK hP hl.1 (Nat.le_of_ble_eq_true rfl) ⟨Nat.zero_le _, Nat.zero_le _⟩ d_Se_goOn_4 ?_
  refine lv_if_ne (tgt := 14) hx hb d_Se_goOn_7 (by decide) (fun c10 => ?_) (fun c10 => ?_)
  · refine lv_iload_n hx hb d_Se_goOn_14 rfl (lv_at hl 1 rfl) ?_
    refine lv_istore_n (lv' := [(2, .int x), (0, .ref (ad 7)), (1, .int x)]) hx hb d_Se_goOn_15 rfl hl (by decide) rfl (fun ls hl => ?_)
    have hl : lv_has ls 3 [(2, .int (nI f)), (0, .ref (ad 7)), (1, .int x)] := by rw [← hf]; exact (lv_sub hl [0, 1, 2] rfl)
    have hn0 : n ≠ 0 := fun h0 => c10 (by rw [hn, h0]; rfl)
    exact lp f σ q hf9 (hqn hn0) ⟨hn, h_r, h_u, hfo, hq⟩ (by rw [se_G, if_neg hn0]) _ _ hP hD hS ls hl
  · refine lv_aload_n hx hb d_Se_goOn_10 rfl (lv_at hl 0 rfl) ?_
    refine x_Se_endWithoutColumns (r := r) (u := u) h_r h_u hr4 hu4 F (tt2 236 rfl rfl) ⟨Nat.le_of_ble_eq_true rfl, Nat.le_of_ble_eq_true rfl⟩ hK hP hD hS hA hl.1 (Nat.le_of_ble_eq_true rfl) ⟨Nat.zero_le _, Nat.zero_le _⟩ d_Se_goOn_11 (fun H locs hP hD hS => ?_)
    refine lv_iload_n hx hb d_Se_goOn_14 rfl (lv_at hl 1 rfl) ?_
    refine lv_istore_n (lv' := [(2, .int x), (0, .ref (ad 7)), (1, .int x)]) hx hb d_Se_goOn_15 rfl hl (by decide) rfl (fun ls hl => ?_)
    have hl : lv_has ls 3 [(2, .int (nI f)), (0, .ref (ad 7)), (1, .int x)] := by rw [← hf]; exact (lv_sub hl [0, 1, 2] rfl)
    have hn0 : n = 0 := by
      rw [hn, ← nI_0, nI_eq (by omega) (by decide)] at c10; exact c10
    exact lp f _ 0 hf9 (by omega) ⟨by simp [se_0, u3_at, hn], by simp [se_0, u3_at, h_r], by simp [se_0, u3_at, h_u], by simp [se_0, u3_at], by rw [se_0, u3_s]; rfl⟩ (by rw [se_G, if_pos hn0]) _ _ hP hD hS ls hl
theorem x_Se_goOn {σ : oS} {r : Nat} {u : Nat} (h_r : σ 9 0 0 = nI r) (h_u : σ 10 0 0 = nI u) (hr4 : r ≤ 4) (hu4 : u ≤ 4) {n : Nat} (hn : σ 2 0 0 = nI n) (hn9 : n ≤ 5) (hfo : σ 17 0 0 = 0 ∨ σ 17 0 0 = 1) {q : Nat} (hq : σ 15 0 0 = nI q - 1) (hqn : n ≠ 0 → q ≤ n) {x : Int32} {f : Nat} (hf : x = nI f) (hf9 : f < 100001) (F : CallFix p m c cc nL s args (cw :: tt) own) (hG : Cond.methodLink own index y_Se_goOn ∈ tt) (hR : 4 + 1 ≤ R.frames ∧ 8 + (3 + 11) + 89 ≤ R.locals) (hK : va_K D vwCl (ot cI cL) s) (hP : va_P D vwCl (ow cI cL ad σ) H) (hD : va_D A (ow cI cL ad σ)) (hS : va_S A H0 H locs) (hA : ∀ q, H0.size ≤ q → A q) (hsz : ls.size = nL) (hW : (rest.map fun v => v.category).sum ≤ 8) (hcs : cells ≤ R.cells ∧ slots ≤ R.slots) (hdg : decode cc pc = .ok (.invokevirtual index, 3)) (kk : ∀ (H1 : Heap) (locs1 : List Loc), va_P D vwCl (ow cI cL ad (se_G σ n r u f)) H1 → va_D A (ow cI cL ad (se_G σ n r u f)) → va_S A H0 H1 locs1 → W p l e R s m args below meth c H1 locs1 cells slots Q (F0 m (pc + 3) ls (.int (se_r (se_G σ n r u f)) :: rest))) : W p l e R s m args below meth c H locs cells slots Q (F0 m pc ls (.int x :: .ref (ad 7) :: rest)) :=
  ok_VM (As := [.int x]) F (c_Se_goOn σ h_r h_u hr4 hu4 hn hn9 hfo hq hqn hf hf9) 1 (tt_V hG i_Se_goOn l_Se_goOn in9_Se k_Se_goOn) rfl ⟨rfl, rfl⟩ (by decide +kernel) hR hK hP hD hS hA (7) 3 rfl rfl ow_7 rfl hsz rfl hW hcs hdg kk
end
end
section
-- follows
def fo_b (x y : Int32) : Int32 := if (x >>> (y &&& 31)) &&& 1 = 1 then 1 else 0
theorem fo_b_b {x y : Int32} : narrow .boolean (.int (fo_b x y)) = .int (fo_b x y) := by
  unfold fo_b
  split <;> rfl
/-- the greatest of g over the bits below m -/
def fo_s (g : Nat → Int32) (bits : Int32) : Nat → Int32
  | 0 => 0
  | b + 1 => if fo_b bits (nI b) = 0 then fo_s g bits b else (if fo_s g bits b < g b then g b else fo_s g bits b)
def fo_l (σ : oS) : Nat → Nat → Int32 → Int32
  | 0, _, _ => 0
  | d + 1, a, y => fo_s (fun b => fo_l σ d b (y ||| (1 <<< (nI a &&& 31)))) (σ 19 0 a &&& ((y ||| (1 <<< (nI a &&& 31))) ^^^ (-1))) 5 + 1
def fo_n (σ : oS) (cs us : Int32) (b : Nat) : Int32 := if fo_b cs (nI b) = 0 then 0 else fo_l σ 5 b us
def fo_p (σ : oS) (cs us : Int32) : Nat → Int32 × Int32
  | 0 => (-1, 0)
  | b + 1 => if fo_n σ cs us b ≤ (fo_p σ cs us b).2 then fo_p σ cs us b else (nI b, fo_n σ cs us b)
theorem fo_p_1 {σ : oS} {cs us : Int32} {m : Nat} : (fo_p σ cs us m).1 = -1 ∨ ∃ b, b < m ∧ (fo_p σ cs us m).1 = nI b := by
  induction m with
  | zero => exact Or.inl rfl
  | succ m ih =>
    rw [fo_p]
    split
    · rcases ih with h | ⟨b, h1, h2⟩
      · exact Or.inl h
      · exact Or.inr ⟨b, by omega, h2⟩
    · exact Or.inr ⟨m, by omega, rfl⟩
def fo_a (σ : oS) : Nat → Int32 → Int32 → Int32 → Int32
  | 0, _, _, c => c
  | m + 1, us, cs, _ => if (fo_p σ cs us 5).1 < 0 then -1 else fo_a σ m (us ||| (1 <<< ((fo_p σ cs us 5).1 &&& 31))) (σ 19 0 (fo_p σ cs us 5).1.toNatClampNeg &&& ((us ||| (1 <<< ((fo_p σ cs us 5).1 &&& 31))) ^^^ (-1))) (fo_p σ cs us 5).1
section
variable {l : Launch} {D : va_G} {cI cL : ClassId} {ad : Nat → Nat}
variable {p : Program} {e : Env} {R : Room} {s : State} {m : MethodId} {args : Array Value} {below : List Frame} {meth : Method} {c : Code} {H : Heap} {locs : List Loc} {cells slots : Nat} {Q : State → Prop} {cc : ByteArray} {pc nL index : Nat} {ls : Array Slot} {rest : List Value} {A : Nat → Prop} {H0 : Heap} {cw : Cond} {own : String}
set_option maxHeartbeats 4000000 in
set_option maxRecDepth 100000 in
theorem c_Fo_count (σ : oS) : ok_MR l y_Fo_count (Cond.code y_Fo_count b_Fo_count 1 (some .int) :: tt) { frames := 0, cells := 0, slots := 0, locals := 0 } D vwCl (ot cI cL) (ow cI cL ad σ) [.ref (ad 12)] (some (.int (σ 20 0 0))) := by
  refine ok_startR (cc := b_Fo_count) (own := RFo) (maxL := 1) (ret := (some .int)) (by decide +kernel) rfl rfl (Nat.le_of_ble_eq_true rfl) ?_
  intro p e s m below meth c F hr hlk hP hK ls hl
  have hl : lv_has ls 1 [(0, .ref (ad 12))] := hl
  have hx := F.1
  have hb := F.2.1
  refine lv_aload_n hx hb d_Fo_count_0 rfl (lv_at hl 0 rfl) ?_
  refine gf_Fo_count F hK hP d_Fo_count_1 ?_
  exact ok_iretR F hr hlk (rfl) d_Fo_count_4
theorem x_Fo_count {σ : oS} (F : CallFix p m c cc nL s args (cw :: tt) own) (hG : Cond.methodLink own index y_Fo_count ∈ tt) (hR : 0 + 1 ≤ R.frames ∧ 8 + (1 + 11) + 0 ≤ R.locals) (hK : va_K D vwCl (ot cI cL) s) (hP : va_P D vwCl (ow cI cL ad σ) H) (hsz : ls.size = nL) (hW : (rest.map fun v => v.category).sum ≤ 8) (hcs : cells ≤ R.cells ∧ slots ≤ R.slots) (hdg : decode cc pc = .ok (.invokevirtual index, 3)) (kk : W p l e R s m args below meth c H locs cells slots Q (F0 m (pc + 3) ls (.int (σ 20 0 0) :: rest))) : W p l e R s m args below meth c H locs cells slots Q (F0 m pc ls (.ref (ad 12) :: rest)) :=
  ok_VR (As := []) F (c_Fo_count σ) 0 (tt_V hG i_Fo_count l_Fo_count in9_Fo k_Fo_count) rfl ⟨rfl, rfl⟩ (by decide +kernel) hR hK hP (12) 4 rfl rfl ow_12 rfl hsz rfl hW hcs hdg kk
set_option maxHeartbeats 4000000 in
set_option maxRecDepth 100000 in
theorem c_Fo_hasBit (σ : oS) {x : Int32} {y : Int32} : ok_MR l y_Fo_hasBit (Cond.code y_Fo_hasBit b_Fo_hasBit 2 (some .boolean) :: tt) { frames := 0, cells := 0, slots := 0, locals := 0 } D vwCl (ot cI cL) (ow cI cL ad σ) [.int x, .int y] (some (.int (fo_b x y))) := by
  refine ok_startR (cc := b_Fo_hasBit) (own := RFo) (maxL := 2) (ret := (some .boolean)) (by decide +kernel) rfl rfl (Nat.le_of_ble_eq_true rfl) ?_
  intro p e s m below meth c F hr hlk hP hK ls hl
  have hl : lv_has ls 2 [(0, .int x), (1, .int y)] := hl
  have hx := F.1
  have hb := F.2.1
  refine lv_iload_n hx hb d_Fo_hasBit_0 rfl (lv_at hl 0 rfl) ?_
  refine lv_iload_n hx hb d_Fo_hasBit_1 rfl (lv_at hl 1 rfl) ?_
  refine lv_ishr hx hb d_Fo_hasBit_2 ?_
  refine lv_iconst (v := 1) hx hb d_Fo_hasBit_3 (by decide) ?_
  refine lv_iand hx hb d_Fo_hasBit_4 ?_
  refine lv_iconst (v := 1) hx hb d_Fo_hasBit_5 (by decide) ?_
  refine lv_icmp_ne (tgt := 13) hx hb d_Fo_hasBit_6 (by decide) (fun c1 => ?_) (fun c1 => ?_)
  · refine lv_iconst (v := 0) hx hb d_Fo_hasBit_13 (by decide) ?_
    exact ok_zretR F hr hlk (rfl) (by simp [fo_b, c1]) d_Fo_hasBit_14
  · refine lv_iconst (v := 1) hx hb d_Fo_hasBit_9 (by decide) ?_
    refine lv_goto (tgt := 14) hx hb d_Fo_hasBit_10 (by decide) ?_
    exact ok_zretR F hr hlk (rfl) (by simp [fo_b, c1]) d_Fo_hasBit_14
theorem x_Fo_hasBit {σ : oS} {x : Int32} {y : Int32} (F : CallFix p m c cc nL s args (cw :: tt) RFo) (hG : Cond.methodLink RFo index y_Fo_hasBit ∈ tt) (hR : 0 + 1 ≤ R.frames ∧ 8 + (2 + 11) + 0 ≤ R.locals) (hK : va_K D vwCl (ot cI cL) s) (hP : va_P D vwCl (ow cI cL ad σ) H) (hsz : ls.size = nL) (hW : (rest.map fun v => v.category).sum ≤ 8) (hcs : cells ≤ R.cells ∧ slots ≤ R.slots) (hdg : decode cc pc = .ok (.invokestatic index, 3)) (kk : W p l e R s m args below meth c H locs cells slots Q (F0 m (pc + 3) ls (.int (fo_b x y) :: rest))) : W p l e R s m args below meth c H locs cells slots Q (F0 m pc ls (.int y :: .int x :: rest)) :=
  ok_SR (As := [.int x, .int y]) F (c_Fo_hasBit σ) 2 (tt_S hG s_Fo_hasBit in9_Fo k_Fo_hasBit) rfl ⟨rfl, rfl⟩ (by decide +kernel) hR hK hP rfl hsz rfl hW hcs hdg kk
set_option maxHeartbeats 4000000 in
set_option maxRecDepth 100000 in
theorem c_Fo_has (σ : oS) {x : Int32} {j : Nat} (hj : x = nI j) (hj9 : j < 5) {y : Int32} : ok_MR l y_Fo_has (Cond.code y_Fo_has b_Fo_has 3 (some .boolean) :: tt) { frames := 1, cells := 0, slots := 0, locals := 21 } D vwCl (ot cI cL) (ow cI cL ad σ) [.ref (ad 12), .int x, .int y] (some (.int (fo_b (σ 19 0 j) y))) := by
  refine ok_startR (cc := b_Fo_has) (own := RFo) (maxL := 3) (ret := (some .boolean)) (by decide +kernel) rfl rfl (Nat.le_of_ble_eq_true rfl) ?_
  intro p e s m below meth c F hr hlk hP hK ls hl
  have hl : lv_has ls 3 [(0, .ref (ad 12)), (1, .int x), (2, .int y)] := hl
  have hx := F.1
  have hb := F.2.1
  refine lv_aload_n hx hb d_Fo_has_0 rfl (lv_at hl 0 rfl) ?_
  refine gf_Fo_behind F hK hP d_Fo_has_1 ?_
  refine lv_iload_n hx hb d_Fo_has_4 rfl (lv_at hl 1 rfl) ?_
  refine ia_19 (j := j) F hK hP hj (by omega) d_Fo_has_5 ?_
  refine lv_iload_n hx hb d_Fo_has_6 rfl (lv_at hl 2 rfl) ?_
  refine x_Fo_hasBit F (tt3 112 rfl rfl) ⟨Nat.le_of_ble_eq_true rfl, Nat.le_of_ble_eq_true rfl⟩ hK hP hl.1 (Nat.le_of_ble_eq_true rfl) ⟨Nat.zero_le _, Nat.zero_le _⟩ d_Fo_has_7 ?_
  exact ok_zretR F hr hlk (fo_b_b) (rfl) d_Fo_has_10
theorem x_Fo_has {σ : oS} {x : Int32} {j : Nat} (hj : x = nI j) (hj9 : j < 5) {y : Int32} (F : CallFix p m c cc nL s args (cw :: tt) own) (hG : Cond.methodLink own index y_Fo_has ∈ tt) (hR : 1 + 1 ≤ R.frames ∧ 8 + (3 + 11) + 21 ≤ R.locals) (hK : va_K D vwCl (ot cI cL) s) (hP : va_P D vwCl (ow cI cL ad σ) H) (hsz : ls.size = nL) (hW : (rest.map fun v => v.category).sum ≤ 8) (hcs : cells ≤ R.cells ∧ slots ≤ R.slots) (hdg : decode cc pc = .ok (.invokevirtual index, 3)) (kk : W p l e R s m args below meth c H locs cells slots Q (F0 m (pc + 3) ls (.int (fo_b (σ 19 0 j) y) :: rest))) : W p l e R s m args below meth c H locs cells slots Q (F0 m pc ls (.int y :: .int x :: .ref (ad 12) :: rest)) :=
  ok_VR (As := [.int x, .int y]) F (c_Fo_has σ hj hj9) 2 (tt_V hG i_Fo_has l_Fo_has in9_Fo k_Fo_has) rfl ⟨rfl, rfl⟩ (by decide +kernel) hR hK hP (12) 4 rfl rfl ow_12 rfl hsz rfl hW hcs hdg kk
set_option maxHeartbeats 4000000 in
set_option maxRecDepth 100000 in
theorem c_Fo_add (σ : oS) {x : Int32} {j : Nat} (hj : x = nI j) (hj9 : j < 5) {y : Int32} : ok_MM l y_Fo_add (Cond.code y_Fo_add b_Fo_add 3 (some .int) :: tt) { frames := 0, cells := 0, slots := 0, locals := 0 } D vwCl (ot cI cL) (ow cI cL ad σ) (ow cI cL ad (u3 (u3 σ 19 0 j (σ 19 0 j ||| (1 <<< (y &&& 31)))) 20 0 0 (σ 20 0 0 + 1))) [.ref (ad 12), .int x, .int y] (some (.int (σ 20 0 0 + 1))) := by
  refine ok_startM (cc := b_Fo_add) (own := RFo) (maxL := 3) (ret := (some .int)) (by decide +kernel) rfl rfl (Nat.le_of_ble_eq_true rfl) ?_
  intro p e s m below meth c A F hr hlk hA hP hK hD hS ls hl
  have hl : lv_has ls 3 [(0, .ref (ad 12)), (1, .int x), (2, .int y)] := hl
  have hx := F.1
  have hb := F.2.1
  refine lv_aload_n hx hb d_Fo_add_0 rfl (lv_at hl 0 rfl) ?_
  refine gf_Fo_behind F hK hP d_Fo_add_1 ?_
  refine lv_iload_n hx hb d_Fo_add_4 rfl (lv_at hl 1 rfl) ?_
  refine lv_dup2_11 hx hb d_Fo_add_5 rfl rfl ?_
  refine ia_19 (j := j) F hK hP hj (by omega) d_Fo_add_6 ?_
  refine lv_iconst (v := 1) hx hb d_Fo_add_7 (by decide) ?_
  refine lv_iload_n hx hb d_Fo_add_8 rfl (lv_at hl 2 rfl) ?_
  refine lv_ishl hx hb d_Fo_add_9 ?_
  refine lv_ior hx hb d_Fo_add_10 ?_
  refine sa_19 (j := j) F hK hP hD hS hj (by omega) d_Fo_add_11 (fun H locs hP hD hS => ?_)
  refine lv_aload_n hx hb d_Fo_add_12 rfl (lv_at hl 0 rfl) ?_
  refine lv_dup hx hb d_Fo_add_13 rfl ?_
  refine gf_Fo_count F hK hP d_Fo_add_14 ?_
  refine lv_iconst (v := 1) hx hb d_Fo_add_17 (by decide) ?_
  refine lv_iadd hx hb d_Fo_add_18 ?_
  refine pf_Fo_count F hK hP hD hS d_Fo_add_19 (fun H locs hP hD hS => ?_)
  have ew : u3 (u3 σ 19 0 j ((σ 19 0 j) ||| (1 <<< (y &&& 31)))) 20 0 0 (((u3 σ 19 0 j ((σ 19 0 j) ||| (1 <<< (y &&& 31)))) 20 0 0) + 1) = u3 (u3 σ 19 0 j (σ 19 0 j ||| (1 <<< (y &&& 31)))) 20 0 0 (σ 20 0 0 + 1) := by congr 1
  rw [ew] at hP hD
  clear ew
  refine lv_aload_n hx hb d_Fo_add_22 rfl (lv_at hl 0 rfl) ?_
  refine gf_Fo_count F hK hP d_Fo_add_23 ?_
  exact ok_iretM F hr hlk hP hD hS (by rw [u3_s]) d_Fo_add_26
theorem x_Fo_add {σ : oS} {x : Int32} {j : Nat} (hj : x = nI j) (hj9 : j < 5) {y : Int32} (F : CallFix p m c cc nL s args (cw :: tt) own) (hG : Cond.methodLink own index y_Fo_add ∈ tt) (hR : 0 + 1 ≤ R.frames ∧ 8 + (3 + 11) + 0 ≤ R.locals) (hK : va_K D vwCl (ot cI cL) s) (hP : va_P D vwCl (ow cI cL ad σ) H) (hD : va_D A (ow cI cL ad σ)) (hS : va_S A H0 H locs) (hA : ∀ q, H0.size ≤ q → A q) (hsz : ls.size = nL) (hW : (rest.map fun v => v.category).sum ≤ 8) (hcs : cells ≤ R.cells ∧ slots ≤ R.slots) (hdg : decode cc pc = .ok (.invokevirtual index, 3)) (kk : ∀ (H1 : Heap) (locs1 : List Loc), va_P D vwCl (ow cI cL ad (u3 (u3 σ 19 0 j (σ 19 0 j ||| (1 <<< (y &&& 31)))) 20 0 0 (σ 20 0 0 + 1))) H1 → va_D A (ow cI cL ad (u3 (u3 σ 19 0 j (σ 19 0 j ||| (1 <<< (y &&& 31)))) 20 0 0 (σ 20 0 0 + 1))) → va_S A H0 H1 locs1 → W p l e R s m args below meth c H1 locs1 cells slots Q (F0 m (pc + 3) ls (.int (σ 20 0 0 + 1) :: rest))) : W p l e R s m args below meth c H locs cells slots Q (F0 m pc ls (.int y :: .int x :: .ref (ad 12) :: rest)) :=
  ok_VM (As := [.int x, .int y]) F (c_Fo_add σ hj hj9) 2 (tt_V hG i_Fo_add l_Fo_add in9_Fo k_Fo_add) rfl ⟨rfl, rfl⟩ (by decide +kernel) hR hK hP hD hS hA (12) 4 rfl rfl ow_12 rfl hsz rfl hW hcs hdg kk
theorem nI_dep {d : Nat} (h : d + 1 ≤ 5) : nI (5 - (d + 1)) + 1 = nI (5 - d) := by rw [nI_1, show 5 - (d + 1) + 1 = 5 - d by omega]
set_option maxHeartbeats 4000000 in
set_option maxRecDepth 100000 in
theorem c_Fo_longestFrom (σ : oS) {d : Nat} (hd : d ≤ 5) {a : Nat} (ha : a < 5) {y v : Int32} (hv : v = nI (5 - d)) : ok_MR l y_Fo_longestFrom (Cond.code y_Fo_longestFrom b_Fo_longestFrom 7 (some .int) :: tt) { frames := d, cells := 0, slots := 0, locals := 26 * d } D vwCl (ot cI cL) (ow cI cL ad σ) [.ref (ad 13), .int (nI a), .int y, .int v] (some (.int (fo_l σ d a y))) := by
  induction d generalizing a y v with
  | zero =>
    refine ok_startR (cc := b_Fo_longestFrom) (own := RFo) (maxL := 7) (ret := (some .int)) (by decide) rfl rfl (Nat.le_of_ble_eq_true rfl) ?_
    intro p e s m below meth c F hr hlk hP hK ls hl
    have hl : lv_has ls 7 [(0, .ref (ad 13)), (1, .int (nI a)), (2, .int y), (3, .int v)] := hl
    have hx := F.1
    have hb := F.2.1
    refine lv_iload_n hx hb d_Fo_longestFrom_0 rfl (lv_at hl 3 rfl) ?_
    refine lv_iconst (v := 5) hx hb d_Fo_longestFrom_1 (by decide) ?_
    refine lv_icmp_lt (tgt := 7) hx hb d_Fo_longestFrom_2 (by decide) (fun c1 => ?_) (fun c1 => ?_)
    · exact absurd c1 (by rw [hv]; decide)
    · refine lv_iconst (v := 0) hx hb d_Fo_longestFrom_5 (by decide) ?_
      exact ok_iretR F hr hlk (rfl) d_Fo_longestFrom_6
  | succ d ih =>
    refine ok_startR (cc := b_Fo_longestFrom) (own := RFo) (maxL := 7) (ret := (some .int)) (by decide) rfl rfl (Nat.le_of_ble_eq_true rfl) ?_
    intro p e s m below meth c F hr hlk hP hK ls hl
    have hl : lv_has ls 7 [(0, .ref (ad 13)), (1, .int (nI a)), (2, .int y), (3, .int v)] := hl
    have hx := F.1
    have hb := F.2.1
    have lp : ∀ (f k : Nat), k ≤ 5 → 5 - k < f → ∀ ls : Array Slot, lv_has ls 7 [(6, .int (nI k)), (5, .int (fo_s (fun b => fo_l σ d b (y ||| (1 <<< (nI a &&& 31)))) (σ 19 0 a &&& ((y ||| (1 <<< (nI a &&& 31))) ^^^ (-1))) k)), (4, .int (y ||| (1 <<< (nI a &&& 31)))), (0, .ref (ad 13)), (1, .int (nI a)), (2, .int y), (3, .int v)] → W p l e { frames := d + 1, cells := 0, slots := 0, locals := 26 * (d + 1) } s m ([.ref (ad 13), .int (nI a), .int y, .int v] : List Value).toArray below meth c s.heap [] 0 0 (MQ below (ok_R (some (.int (fo_l σ (d + 1) a y)))) ([.ref (ad 13), .int (nI a), .int y, .int v] : List Value).toArray s 0 0 (fun _ => False)) (F0 m 20 ls []) := by
      intro f
      induction f with
      | zero => intro k h1 h2; omega
      | succ f ihf =>
        intro k h1 h2 ls hl
        refine lv_iload hx hb d_Fo_longestFrom_20 (lv_at hl 0 rfl) ?_
        refine lv_iconst (v := 5) hx hb d_Fo_longestFrom_22 (by decide) ?_
        refine lv_icmp_ge (tgt := 66) hx hb d_Fo_longestFrom_23 (by decide) (fun c1 => ?_) (fun c1 => ?_)
        · have hkn : k = 5 := by
            rw [show (5 : Int32) = nI 5 from rfl, nI_leI (by omega) (by omega)] at c1; omega
          subst hkn
          refine lv_iload hx hb d_Fo_longestFrom_66 (lv_at hl 1 rfl) ?_
          refine lv_iconst (v := 1) hx hb d_Fo_longestFrom_68 (by decide) ?_
          refine lv_iadd hx hb d_Fo_longestFrom_69 ?_
          exact ok_iretR F hr hlk (rfl) d_Fo_longestFrom_70
        · have hkn : k < 5 := by
            rw [show (5 : Int32) = nI 5 from rfl, nI_leI (by omega) (by omega)] at c1; omega
          refine lv_aload_n hx hb d_Fo_longestFrom_26 rfl (lv_at hl 3 rfl) ?_
          refine lv_iload_n hx hb d_Fo_longestFrom_27 rfl (lv_at hl 4 rfl) ?_
          refine ia_19 (j := a) F hK hP rfl (by omega) d_Fo_longestFrom_28 ?_
          refine lv_iload hx hb d_Fo_longestFrom_29 (lv_at hl 2 rfl) ?_
          refine lv_iconst (v := -1) hx hb d_Fo_longestFrom_31 (by decide) ?_
          refine lv_ixor hx hb d_Fo_longestFrom_32 ?_
          refine lv_iand hx hb d_Fo_longestFrom_33 ?_
          refine lv_iload hx hb d_Fo_longestFrom_34 (lv_at hl 0 rfl) ?_
          refine x_Fo_hasBit F (tt3 112 rfl rfl) ⟨Nat.le_of_ble_eq_true rfl, Nat.le_of_ble_eq_true rfl⟩ hK hP hl.1 (Nat.le_of_ble_eq_true rfl) ⟨Nat.zero_le _, Nat.zero_le _⟩ d_Fo_longestFrom_36 ?_
          refine lv_if_eq (tgt := 60) hx hb d_Fo_longestFrom_39 (by decide) (fun c2 => ?_) (fun c2 => ?_)
          · refine lv_iinc (v := nI (k + 1)) (lv' := [(6, .int (nI (k + 1))), (5, .int (fo_s (fun b => fo_l σ d b (y ||| (1 <<< (nI a &&& 31)))) (σ 19 0 a &&& ((y ||| (1 <<< (nI a &&& 31))) ^^^ (-1))) k)), (4, .int (y ||| (1 <<< (nI a &&& 31)))), (0, .ref (ad 13)), (1, .int (nI a)), (2, .int y), (3, .int v)]) hx hb d_Fo_longestFrom_60 hl (k := 0) rfl (nI_inc _) (by decide) rfl (fun ls hl => ?_)
            refine lv_goto (tgt := 20) hx hb d_Fo_longestFrom_63 (by decide) ?_
            have e9 : fo_s (fun b => fo_l σ d b (y ||| (1 <<< (nI a &&& 31)))) (σ 19 0 a &&& ((y ||| (1 <<< (nI a &&& 31))) ^^^ (-1))) (k + 1) = fo_s (fun b => fo_l σ d b (y ||| (1 <<< (nI a &&& 31)))) (σ 19 0 a &&& ((y ||| (1 <<< (nI a &&& 31))) ^^^ (-1))) k := by
              rw [fo_s]; first | rw [if_pos c2] | rw [if_neg c2]
            exact ihf (k + 1) (by omega) (by omega) ls (by rw [e9]; exact (lv_sub hl [0, 1, 2, 3, 4, 5, 6] rfl))
          · refine lv_iload hx hb d_Fo_longestFrom_42 (lv_at hl 1 rfl) ?_
            refine lv_aload_n hx hb d_Fo_longestFrom_44 rfl (lv_at hl 3 rfl) ?_
            refine lv_iload hx hb d_Fo_longestFrom_45 (lv_at hl 0 rfl) ?_
            refine lv_iload hx hb d_Fo_longestFrom_47 (lv_at hl 2 rfl) ?_
            refine lv_iload_n hx hb d_Fo_longestFrom_49 rfl (lv_at hl 6 rfl) ?_
            refine lv_iconst (v := 1) hx hb d_Fo_longestFrom_50 (by decide) ?_
            refine lv_iadd hx hb d_Fo_longestFrom_51 ?_
            refine ok_SR (As := [.ref (ad 13), .int (nI k), .int (y ||| (1 <<< (nI a &&& 31))), .int (v + 1)]) F (ih (by omega) (by omega) (by rw [hv]; exact nI_dep (by omega))) 4 (tt_S (tt3 135 rfl rfl) s_Fo_longestFrom in9_Fo k_Fo_longestFrom) rfl ⟨rfl, rfl⟩ (by decide +kernel) ⟨Nat.le_refl _, by show 8 + (7 + 11) + 26 * d ≤ 26 * (d + 1); omega⟩ hK hP rfl hl.1 rfl (Nat.le_of_ble_eq_true rfl) ⟨Nat.zero_le _, Nat.zero_le _⟩ d_Fo_longestFrom_52 ?_
            refine ok_mmax F (List.mem_cons_of_mem _ (tt3 138 rfl rfl)) hl.1 (Nat.le_of_ble_eq_true rfl) (Nat.le_of_ble_eq_true rfl) (Nat.zero_le _) (Nat.zero_le _) d_Fo_longestFrom_55 ?_
            refine lv_istore (lv' := [(5, .int (if (fo_s (fun b => fo_l σ d b (y ||| (1 <<< (nI a &&& 31)))) (σ 19 0 a &&& ((y ||| (1 <<< (nI a &&& 31))) ^^^ (-1))) k) < (fo_l σ d k (y ||| (1 <<< (nI a &&& 31)))) then (fo_l σ d k (y ||| (1 <<< (nI a &&& 31)))) else (fo_s (fun b => fo_l σ d b (y ||| (1 <<< (nI a &&& 31)))) (σ 19 0 a &&& ((y ||| (1 <<< (nI a &&& 31))) ^^^ (-1))) k))), (6, .int (nI k)), (4, .int (y ||| (1 <<< (nI a &&& 31)))), (0, .ref (ad 13)), (1, .int (nI a)), (2, .int y), (3, .int v)]) hx hb d_Fo_longestFrom_58 hl (by decide) rfl (fun ls hl => ?_)
            refine lv_iinc (v := nI (k + 1)) (lv' := [(6, .int (nI (k + 1))), (5, .int (if (fo_s (fun b => fo_l σ d b (y ||| (1 <<< (nI a &&& 31)))) (σ 19 0 a &&& ((y ||| (1 <<< (nI a &&& 31))) ^^^ (-1))) k) < (fo_l σ d k (y ||| (1 <<< (nI a &&& 31)))) then (fo_l σ d k (y ||| (1 <<< (nI a &&& 31)))) else (fo_s (fun b => fo_l σ d b (y ||| (1 <<< (nI a &&& 31)))) (σ 19 0 a &&& ((y ||| (1 <<< (nI a &&& 31))) ^^^ (-1))) k))), (4, .int (y ||| (1 <<< (nI a &&& 31)))), (0, .ref (ad 13)), (1, .int (nI a)), (2, .int y), (3, .int v)]) hx hb d_Fo_longestFrom_60 hl (k := 1) rfl (nI_inc _) (by decide) rfl (fun ls hl => ?_)
            refine lv_goto (tgt := 20) hx hb d_Fo_longestFrom_63 (by decide) ?_
            have e9 : fo_s (fun b => fo_l σ d b (y ||| (1 <<< (nI a &&& 31)))) (σ 19 0 a &&& ((y ||| (1 <<< (nI a &&& 31))) ^^^ (-1))) (k + 1) = if (fo_s (fun b => fo_l σ d b (y ||| (1 <<< (nI a &&& 31)))) (σ 19 0 a &&& ((y ||| (1 <<< (nI a &&& 31))) ^^^ (-1))) k) < (fo_l σ d k (y ||| (1 <<< (nI a &&& 31)))) then (fo_l σ d k (y ||| (1 <<< (nI a &&& 31)))) else (fo_s (fun b => fo_l σ d b (y ||| (1 <<< (nI a &&& 31)))) (σ 19 0 a &&& ((y ||| (1 <<< (nI a &&& 31))) ^^^ (-1))) k) := by
              rw [fo_s]; first | rw [if_pos c2] | rw [if_neg c2]
            exact ihf (k + 1) (by omega) (by omega) ls (by rw [e9]; exact (lv_sub hl [0, 1, 2, 3, 4, 5, 6] rfl))
    refine lv_iload_n hx hb d_Fo_longestFrom_0 rfl (lv_at hl 3 rfl) ?_
    refine lv_iconst (v := 5) hx hb d_Fo_longestFrom_1 (by decide) ?_
    refine lv_icmp_lt (tgt := 7) hx hb d_Fo_longestFrom_2 (by decide) (fun c3 => ?_) (fun c3 => ?_)
    · refine lv_iload_n hx hb d_Fo_longestFrom_7 rfl (lv_at hl 2 rfl) ?_
      refine lv_iconst (v := 1) hx hb d_Fo_longestFrom_8 (by decide) ?_
      refine lv_iload_n hx hb d_Fo_longestFrom_9 rfl (lv_at hl 1 rfl) ?_
      refine lv_ishl hx hb d_Fo_longestFrom_10 ?_
      refine lv_ior hx hb d_Fo_longestFrom_11 ?_
      refine lv_istore (lv' := [(4, .int (y ||| (1 <<< ((nI a) &&& 31)))), (0, .ref (ad 13)), (1, .int (nI a)), (2, .int y), (3, .int v)]) hx hb d_Fo_longestFrom_12 hl (by decide) rfl (fun ls hl => ?_)
      refine lv_iconst (v := 0) hx hb d_Fo_longestFrom_14 (by decide) ?_
      refine lv_istore (lv' := [(5, .int 0), (4, .int (y ||| (1 <<< ((nI a) &&& 31)))), (0, .ref (ad 13)), (1, .int (nI a)), (2, .int y), (3, .int v)]) hx hb d_Fo_longestFrom_15 hl (by decide) rfl (fun ls hl => ?_)
      refine lv_iconst (v := 0) hx hb d_Fo_longestFrom_17 (by decide) ?_
      refine lv_istore (lv' := [(6, .int 0), (5, .int 0), (4, .int (y ||| (1 <<< ((nI a) &&& 31)))), (0, .ref (ad 13)), (1, .int (nI a)), (2, .int y), (3, .int v)]) hx hb d_Fo_longestFrom_18 hl (by decide) rfl (fun ls hl => ?_)
      exact lp 6 0 (by omega) (by omega) ls (lv_sub hl [0, 1, 2, 3, 4, 5, 6] rfl)
    · exact absurd (by rw [hv, show (5 : Int32) = nI 5 from rfl]; exact nI_lt (by omega) (by omega)) c3
set_option maxHeartbeats 4000000 in
set_option maxRecDepth 100000 in
theorem c_Fo_bestChoice (σ : oS) {x : Int32} {y : Int32} : ok_MR l y_Fo_bestChoice (Cond.code y_Fo_bestChoice b_Fo_bestChoice 7 (some .int) :: tt) { frames := 6, cells := 0, slots := 0, locals := 156 } D vwCl (ot cI cL) (ow cI cL ad σ) [.ref (ad 13), .int x, .int y] (some (.int ((fo_p σ x y 5).1))) := by
  refine ok_startR (cc := b_Fo_bestChoice) (own := RFo) (maxL := 7) (ret := (some .int)) (by decide +kernel) rfl rfl (Nat.le_of_ble_eq_true rfl) ?_
  intro p e s m below meth c F hr hlk hP hK ls hl
  have hl : lv_has ls 7 [(0, .ref (ad 13)), (1, .int x), (2, .int y)] := hl
  have hx := F.1
  have hb := F.2.1
  have lp : ∀ (f k : Nat), k ≤ 5 → 5 - k < f → ∀ ls : Array Slot, lv_has ls 7 [(5, .int (nI k)), (3, .int ((fo_p σ x y k).1)), (4, .int ((fo_p σ x y k).2)), (0, .ref (ad 13)), (1, .int x), (2, .int y)] → W p l e { frames := 6, cells := 0, slots := 0, locals := 156 } s m ([.ref (ad 13), .int x, .int y] : List Value).toArray below meth c s.heap [] 0 0 (MQ below (ok_R (some (.int ((fo_p σ x y 5).1)))) ([.ref (ad 13), .int x, .int y] : List Value).toArray s 0 0 (fun _ => False)) (F0 m 8 ls []) := by
    intro f
    induction f with
    | zero => intro k h1 h2; omega
    | succ f ih =>
      intro k h1 h2 ls hl
      refine lv_iload hx hb d_Fo_bestChoice_8 (lv_at hl 0 rfl) ?_
      refine lv_iconst (v := 5) hx hb d_Fo_bestChoice_10 (by decide) ?_
      refine lv_icmp_ge (tgt := 57) hx hb d_Fo_bestChoice_11 (by decide) (fun c1 => ?_) (fun c1 => ?_)
      · have hkn : k = 5 := by
          rw [show (5 : Int32) = nI 5 from rfl, nI_leI (by omega) (by omega)] at c1; omega
        subst hkn
        refine lv_iload_n hx hb d_Fo_bestChoice_57 rfl (lv_at hl 1 rfl) ?_
        exact ok_iretR F hr hlk (rfl) d_Fo_bestChoice_58
      · have hkn : k < 5 := by
          rw [show (5 : Int32) = nI 5 from rfl, nI_leI (by omega) (by omega)] at c1; omega
        refine lv_iload_n hx hb d_Fo_bestChoice_14 rfl (lv_at hl 4 rfl) ?_
        refine lv_iload hx hb d_Fo_bestChoice_15 (lv_at hl 0 rfl) ?_
        refine x_Fo_hasBit F (tt3 112 rfl rfl) ⟨Nat.le_of_ble_eq_true rfl, Nat.le_of_ble_eq_true rfl⟩ hK hP hl.1 (Nat.le_of_ble_eq_true rfl) ⟨Nat.zero_le _, Nat.zero_le _⟩ d_Fo_bestChoice_17 ?_
        refine lv_if_eq (tgt := 34) hx hb d_Fo_bestChoice_20 (by decide) (fun c2 => ?_) (fun c2 => ?_)
        · refine lv_iconst (v := 0) hx hb d_Fo_bestChoice_34 (by decide) ?_
          have e6 : fo_n σ x y k = 0 := by unfold fo_n; first | rw [if_pos c2] | rw [if_neg c2]
          rw [← e6]
          refine lv_istore (lv' := [(6, .int (fo_n σ x y k)), (5, .int (nI k)), (3, .int ((fo_p σ x y k).1)), (4, .int ((fo_p σ x y k).2)), (0, .ref (ad 13)), (1, .int x), (2, .int y)]) hx hb d_Fo_bestChoice_35 hl (by decide) rfl (fun ls hl => ?_)
          refine lv_iload hx hb d_Fo_bestChoice_37 (lv_at hl 0 rfl) ?_
          refine lv_iload hx hb d_Fo_bestChoice_39 (lv_at hl 3 rfl) ?_
          refine lv_icmp_le (tgt := 51) hx hb d_Fo_bestChoice_41 (by decide) (fun c3 => ?_) (fun c3 => ?_)
          · refine lv_iinc (v := nI (k + 1)) (lv' := [(5, .int (nI (k + 1))), (6, .int (fo_n σ x y k)), (3, .int ((fo_p σ x y k).1)), (4, .int ((fo_p σ x y k).2)), (0, .ref (ad 13)), (1, .int x), (2, .int y)]) hx hb d_Fo_bestChoice_51 hl (k := 1) rfl (nI_inc _) (by decide) rfl (fun ls hl => ?_)
            refine lv_goto (tgt := 8) hx hb d_Fo_bestChoice_54 (by decide) ?_
            have e9 : fo_p σ x y (k + 1) = fo_p σ x y k := by
              rw [fo_p]; first | rw [if_pos c3] | rw [if_neg c3]
            exact ih (k + 1) (by omega) (by omega) ls (by rw [e9]; exact (lv_sub hl [0, 2, 3, 4, 5, 6] rfl))
          · refine lv_iload hx hb d_Fo_bestChoice_44 (lv_at hl 0 rfl) ?_
            refine lv_istore (lv' := [(4, .int (fo_n σ x y k)), (6, .int (fo_n σ x y k)), (5, .int (nI k)), (3, .int ((fo_p σ x y k).1)), (0, .ref (ad 13)), (1, .int x), (2, .int y)]) hx hb d_Fo_bestChoice_46 hl (by decide) rfl (fun ls hl => ?_)
            refine lv_iload hx hb d_Fo_bestChoice_48 (lv_at hl 2 rfl) ?_
            refine lv_istore_n (lv' := [(3, .int (nI k)), (4, .int (fo_n σ x y k)), (6, .int (fo_n σ x y k)), (5, .int (nI k)), (0, .ref (ad 13)), (1, .int x), (2, .int y)]) hx hb d_Fo_bestChoice_50 rfl hl (by decide) rfl (fun ls hl => ?_)
            refine lv_iinc (v := nI (k + 1)) (lv' := [(5, .int (nI (k + 1))), (3, .int (nI k)), (4, .int (fo_n σ x y k)), (6, .int (fo_n σ x y k)), (0, .ref (ad 13)), (1, .int x), (2, .int y)]) hx hb d_Fo_bestChoice_51 hl (k := 3) rfl (nI_inc _) (by decide) rfl (fun ls hl => ?_)
            refine lv_goto (tgt := 8) hx hb d_Fo_bestChoice_54 (by decide) ?_
            have e9 : fo_p σ x y (k + 1) = (nI k, fo_n σ x y k) := by
              rw [fo_p]; first | rw [if_pos c3] | rw [if_neg c3]
            exact ih (k + 1) (by omega) (by omega) ls (by rw [e9]; exact (lv_sub hl [0, 1, 2, 4, 5, 6] rfl))
        · refine lv_aload_n hx hb d_Fo_bestChoice_23 rfl (lv_at hl 3 rfl) ?_
          refine lv_iload hx hb d_Fo_bestChoice_24 (lv_at hl 0 rfl) ?_
          refine lv_iload_n hx hb d_Fo_bestChoice_26 rfl (lv_at hl 5 rfl) ?_
          refine lv_iconst (v := 0) hx hb d_Fo_bestChoice_27 (by decide) ?_
          refine ok_SR (As := [.ref (ad 13), .int (nI k), .int y, .int 0]) F (c_Fo_longestFrom σ (d := 5) (by omega) (by omega) (by decide)) 4 (tt_S (tt3 135 rfl rfl) s_Fo_longestFrom in9_Fo k_Fo_longestFrom) rfl ⟨rfl, rfl⟩ (by decide +kernel) ⟨Nat.le_of_ble_eq_true rfl, Nat.le_of_ble_eq_true rfl⟩ hK hP rfl hl.1 rfl (Nat.le_of_ble_eq_true rfl) ⟨Nat.zero_le _, Nat.zero_le _⟩ d_Fo_bestChoice_28 ?_
          refine lv_goto (tgt := 35) hx hb d_Fo_bestChoice_31 (by decide) ?_
          have e6 : fo_n σ x y k = fo_l σ 5 k y := by unfold fo_n; first | rw [if_pos c2] | rw [if_neg c2]
          rw [← e6]
          refine lv_istore (lv' := [(6, .int (fo_n σ x y k)), (5, .int (nI k)), (3, .int ((fo_p σ x y k).1)), (4, .int ((fo_p σ x y k).2)), (0, .ref (ad 13)), (1, .int x), (2, .int y)]) hx hb d_Fo_bestChoice_35 hl (by decide) rfl (fun ls hl => ?_)
          refine lv_iload hx hb d_Fo_bestChoice_37 (lv_at hl 0 rfl) ?_
          refine lv_iload hx hb d_Fo_bestChoice_39 (lv_at hl 3 rfl) ?_
          refine lv_icmp_le (tgt := 51) hx hb d_Fo_bestChoice_41 (by decide) (fun c4 => ?_) (fun c4 => ?_)
          · refine lv_iinc (v := nI (k + 1)) (lv' := [(5, .int (nI (k + 1))), (6, .int (fo_n σ x y k)), (3, .int ((fo_p σ x y k).1)), (4, .int ((fo_p σ x y k).2)), (0, .ref (ad 13)), (1, .int x), (2, .int y)]) hx hb d_Fo_bestChoice_51 hl (k := 1) rfl (nI_inc _) (by decide) rfl (fun ls hl => ?_)
            refine lv_goto (tgt := 8) hx hb d_Fo_bestChoice_54 (by decide) ?_
            have e9 : fo_p σ x y (k + 1) = fo_p σ x y k := by
              rw [fo_p]; first | rw [if_pos c4] | rw [if_neg c4]
            exact ih (k + 1) (by omega) (by omega) ls (by rw [e9]; exact (lv_sub hl [0, 2, 3, 4, 5, 6] rfl))
          · refine lv_iload hx hb d_Fo_bestChoice_44 (lv_at hl 0 rfl) ?_
            refine lv_istore (lv' := [(4, .int (fo_n σ x y k)), (6, .int (fo_n σ x y k)), (5, .int (nI k)), (3, .int ((fo_p σ x y k).1)), (0, .ref (ad 13)), (1, .int x), (2, .int y)]) hx hb d_Fo_bestChoice_46 hl (by decide) rfl (fun ls hl => ?_)
            refine lv_iload hx hb d_Fo_bestChoice_48 (lv_at hl 2 rfl) ?_
            refine lv_istore_n (lv' := [(3, .int (nI k)), (4, .int (fo_n σ x y k)), (6, .int (fo_n σ x y k)), (5, .int (nI k)), (0, .ref (ad 13)), (1, .int x), (2, .int y)]) hx hb d_Fo_bestChoice_50 rfl hl (by decide) rfl (fun ls hl => ?_)
            refine lv_iinc (v := nI (k + 1)) (lv' := [(5, .int (nI (k + 1))), (3, .int (nI k)), (4, .int (fo_n σ x y k)), (6, .int (fo_n σ x y k)), (0, .ref (ad 13)), (1, .int x), (2, .int y)]) hx hb d_Fo_bestChoice_51 hl (k := 3) rfl (nI_inc _) (by decide) rfl (fun ls hl => ?_)
            refine lv_goto (tgt := 8) hx hb d_Fo_bestChoice_54 (by decide) ?_
            have e9 : fo_p σ x y (k + 1) = (nI k, fo_n σ x y k) := by
              rw [fo_p]; first | rw [if_pos c4] | rw [if_neg c4]
            exact ih (k + 1) (by omega) (by omega) ls (by rw [e9]; exact (lv_sub hl [0, 1, 2, 4, 5, 6] rfl))
  refine lv_iconst (v := -1) hx hb d_Fo_bestChoice_0 (by decide) ?_
  refine lv_istore_n (lv' := [(3, .int (-1)), (0, .ref (ad 13)), (1, .int x), (2, .int y)]) hx hb d_Fo_bestChoice_1 rfl hl (by decide) rfl (fun ls hl => ?_)
  refine lv_iconst (v := 0) hx hb d_Fo_bestChoice_2 (by decide) ?_
  refine lv_istore (lv' := [(4, .int 0), (3, .int (-1)), (0, .ref (ad 13)), (1, .int x), (2, .int y)]) hx hb d_Fo_bestChoice_3 hl (by decide) rfl (fun ls hl => ?_)
  refine lv_iconst (v := 0) hx hb d_Fo_bestChoice_5 (by decide) ?_
  refine lv_istore (lv' := [(5, .int 0), (4, .int 0), (3, .int (-1)), (0, .ref (ad 13)), (1, .int x), (2, .int y)]) hx hb d_Fo_bestChoice_6 hl (by decide) rfl (fun ls hl => ?_)
  exact lp 6 0 (by omega) (by omega) ls (lv_sub hl [0, 2, 1, 3, 4, 5] rfl)
theorem x_Fo_bestChoice {σ : oS} {x : Int32} {y : Int32} (F : CallFix p m c cc nL s args (cw :: tt) RFo) (hG : Cond.methodLink RFo index y_Fo_bestChoice ∈ tt) (hR : 6 + 1 ≤ R.frames ∧ 8 + (7 + 11) + 156 ≤ R.locals) (hK : va_K D vwCl (ot cI cL) s) (hP : va_P D vwCl (ow cI cL ad σ) H) (hsz : ls.size = nL) (hW : (rest.map fun v => v.category).sum ≤ 8) (hcs : cells ≤ R.cells ∧ slots ≤ R.slots) (hdg : decode cc pc = .ok (.invokestatic index, 3)) (kk : W p l e R s m args below meth c H locs cells slots Q (F0 m (pc + 3) ls (.int ((fo_p σ x y 5).1) :: rest))) : W p l e R s m args below meth c H locs cells slots Q (F0 m pc ls (.int y :: .int x :: .ref (ad 13) :: rest)) :=
  ok_SR (As := [.ref (ad 13), .int x, .int y]) F (c_Fo_bestChoice σ) 3 (tt_S hG s_Fo_bestChoice in9_Fo k_Fo_bestChoice) rfl ⟨rfl, rfl⟩ (by decide +kernel) hR hK hP rfl hsz rfl hW hcs hdg kk
set_option maxHeartbeats 4000000 in
set_option maxRecDepth 100000 in
theorem c_Fo_longestAt (σ : oS) {x : Int32} {k : Nat} (hk : x = nI k) (hk9 : k < 2147483648) {y : Int32} {n : Nat} (hn : y = nI n) (hn9 : n < 6) : ok_MR l y_Fo_longestAt (Cond.code y_Fo_longestAt b_Fo_longestAt 7 (some .int) :: tt) { frames := 7, cells := 0, slots := 0, locals := 182 } D vwCl (ot cI cL) (ow cI cL ad σ) [.ref (ad 12), .int x, .int y] (some (.int (if n ≤ k then -1 else fo_a σ (k + 1) 0 ((1 <<< (y &&& 31)) - 1) (-1)))) := by
  refine ok_startR (cc := b_Fo_longestAt) (own := RFo) (maxL := 7) (ret := (some .int)) (by decide +kernel) rfl rfl (Nat.le_of_ble_eq_true rfl) ?_
  intro p e s m below meth c F hr hlk hP hK ls hl
  have hl : lv_has ls 7 [(0, .ref (ad 12)), (1, .int x), (2, .int y)] := hl
  have hx := F.1
  have hb := F.2.1
  have lp : k < n → ∀ (f t : Nat), t ≤ k + 1 → k + 1 - t < f → ∀ us cs cv : Int32, (if n ≤ k then -1 else fo_a σ (k + 1) 0 ((1 <<< (y &&& 31)) - 1) (-1)) = fo_a σ (k + 1 - t) us cs cv → ∀ ls : Array Slot, lv_has ls 7 [(6, .int (nI t)), (5, .int cv), (4, .int cs), (3, .int us), (0, .ref (ad 12)), (1, .int x), (2, .int y)] → W p l e { frames := 7, cells := 0, slots := 0, locals := 182 } s m ([.ref (ad 12), .int x, .int y] : List Value).toArray below meth c s.heap [] 0 0 (MQ below (ok_R (some (.int (if n ≤ k then -1 else fo_a σ (k + 1) 0 ((1 <<< (y &&& 31)) - 1) (-1))))) ([.ref (ad 12), .int x, .int y] : List Value).toArray s 0 0 (fun _ => False)) (F0 m 22 ls []) := by
    intro hkn f
    induction f with
    | zero => intro t h1 h2; omega
    | succ f ih =>
      intro t h1 h2 us cs cv heq ls hl
      refine lv_iload hx hb d_Fo_longestAt_22 (lv_at hl 0 rfl) ?_
      refine lv_iload_n hx hb d_Fo_longestAt_24 rfl (lv_at hl 5 rfl) ?_
      refine lv_icmp_gt (tgt := 73) hx hb d_Fo_longestAt_25 (by decide) (fun c1 => ?_) (fun c1 => ?_)
      · have ht : t = k + 1 := by
          rw [hk] at c1
          have := (nI_ltI (by omega) (by omega)).mp c1; omega
        subst ht
        rw [Nat.sub_self] at heq
        refine lv_iload hx hb d_Fo_longestAt_73 (lv_at hl 1 rfl) ?_
        exact ok_iretR F hr hlk (by rw [heq]; rfl) d_Fo_longestAt_75
      · have ht : t < k + 1 := by
          rw [hk] at c1
          have q9 : ¬ k < t := fun q => c1 (nI_lt q (by omega))
          omega
        rw [show k + 1 - t = (k + 1 - (t + 1)) + 1 by omega] at heq
        refine lv_aload_n hx hb d_Fo_longestAt_28 rfl (lv_at hl 4 rfl) ?_
        refine gf_Fo_behind F hK hP d_Fo_longestAt_29 ?_
        refine lv_iload hx hb d_Fo_longestAt_32 (lv_at hl 2 rfl) ?_
        refine lv_iload_n hx hb d_Fo_longestAt_34 rfl (lv_at hl 3 rfl) ?_
        refine x_Fo_bestChoice F (tt3 132 rfl rfl) ⟨Nat.le_of_ble_eq_true rfl, Nat.le_of_ble_eq_true rfl⟩ hK hP hl.1 (Nat.le_of_ble_eq_true rfl) ⟨Nat.zero_le _, Nat.zero_le _⟩ d_Fo_longestAt_35 ?_
        refine lv_istore (lv' := [(5, .int ((fo_p σ cs us 5).1)), (6, .int (nI t)), (4, .int cs), (3, .int us), (0, .ref (ad 12)), (1, .int x), (2, .int y)]) hx hb d_Fo_longestAt_38 hl (by decide) rfl (fun ls hl => ?_)
        refine lv_iload hx hb d_Fo_longestAt_40 (lv_at hl 0 rfl) ?_
        refine lv_if_ge (tgt := 47) hx hb d_Fo_longestAt_42 (by decide) (fun c2 => ?_) (fun c2 => ?_)
        · obtain ⟨b, hb5, hbc⟩ : ∃ b, b < 5 ∧ (fo_p σ cs us 5).1 = nI b := by
            rcases fo_p_1 (σ := σ) (cs := cs) (us := us) (m := 5) with h | h
            · rw [h] at c2; exact absurd c2 (by decide)
            · exact h
          have hbn : (fo_p σ cs us 5).1.toNatClampNeg = b := by rw [hbc]; exact nI_clamp (by omega)
          have heq2 := heq.trans (show fo_a σ (k + 1 - (t + 1) + 1) us cs cv = _ by rw [fo_a, if_neg (fun q => absurd c2 (Int32.not_le.mpr q)), hbn])
          refine lv_iload_n hx hb d_Fo_longestAt_47 rfl (lv_at hl 3 rfl) ?_
          refine lv_iconst (v := 1) hx hb d_Fo_longestAt_48 (by decide) ?_
          refine lv_iload hx hb d_Fo_longestAt_49 (lv_at hl 0 rfl) ?_
          refine lv_ishl hx hb d_Fo_longestAt_51 ?_
          refine lv_ior hx hb d_Fo_longestAt_52 ?_
          refine lv_istore_n (lv' := [(3, .int (us ||| (1 <<< (((fo_p σ cs us 5).1) &&& 31)))), (5, .int ((fo_p σ cs us 5).1)), (6, .int (nI t)), (4, .int cs), (0, .ref (ad 12)), (1, .int x), (2, .int y)]) hx hb d_Fo_longestAt_53 rfl hl (by decide) rfl (fun ls hl => ?_)
          refine lv_aload_n hx hb d_Fo_longestAt_54 rfl (lv_at hl 4 rfl) ?_
          refine gf_Fo_behind F hK hP d_Fo_longestAt_55 ?_
          refine lv_iload hx hb d_Fo_longestAt_58 (lv_at hl 1 rfl) ?_
          refine ia_19 (j := b) F hK hP hbc (by omega) d_Fo_longestAt_60 ?_
          refine lv_iload_n hx hb d_Fo_longestAt_61 rfl (lv_at hl 0 rfl) ?_
          refine lv_iconst (v := -1) hx hb d_Fo_longestAt_62 (by decide) ?_
          refine lv_ixor hx hb d_Fo_longestAt_63 ?_
          refine lv_iand hx hb d_Fo_longestAt_64 ?_
          refine lv_istore (lv' := [(4, .int ((σ 19 0 b) &&& ((us ||| (1 <<< (((fo_p σ cs us 5).1) &&& 31))) ^^^ (-1)))), (3, .int (us ||| (1 <<< (((fo_p σ cs us 5).1) &&& 31)))), (5, .int ((fo_p σ cs us 5).1)), (6, .int (nI t)), (0, .ref (ad 12)), (1, .int x), (2, .int y)]) hx hb d_Fo_longestAt_65 hl (by decide) rfl (fun ls hl => ?_)
          refine lv_iinc (v := nI (t + 1)) (lv' := [(6, .int (nI (t + 1))), (4, .int ((σ 19 0 b) &&& ((us ||| (1 <<< (((fo_p σ cs us 5).1) &&& 31))) ^^^ (-1)))), (3, .int (us ||| (1 <<< (((fo_p σ cs us 5).1) &&& 31)))), (5, .int ((fo_p σ cs us 5).1)), (0, .ref (ad 12)), (1, .int x), (2, .int y)]) hx hb d_Fo_longestAt_67 hl (k := 3) rfl (nI_inc _) (by decide) rfl (fun ls hl => ?_)
          refine lv_goto (tgt := 22) hx hb d_Fo_longestAt_70 (by decide) ?_
          exact ih (t + 1) (by omega) (by omega) _ _ _ heq2 ls (lv_sub hl [0, 3, 1, 2, 4, 5, 6] rfl)
        · refine lv_iconst (v := -1) hx hb d_Fo_longestAt_45 (by decide) ?_
          exact ok_iretR F hr hlk (by rw [heq, fo_a, if_pos (Int32.not_le.mp c2)]) d_Fo_longestAt_46
  refine lv_iload_n hx hb d_Fo_longestAt_0 rfl (lv_at hl 1 rfl) ?_
  refine lv_iload_n hx hb d_Fo_longestAt_1 rfl (lv_at hl 2 rfl) ?_
  refine lv_icmp_lt (tgt := 7) hx hb d_Fo_longestAt_2 (by decide) (fun c3 => ?_) (fun c3 => ?_)
  · have hkn : k < n := by
      rw [hk, hn, nI_ltI (by omega) (by omega)] at c3; omega
    refine lv_iconst (v := 0) hx hb d_Fo_longestAt_7 (by decide) ?_
    refine lv_istore_n (lv' := [(3, .int 0), (0, .ref (ad 12)), (1, .int x), (2, .int y)]) hx hb d_Fo_longestAt_8 rfl hl (by decide) rfl (fun ls hl => ?_)
    refine lv_iconst (v := 1) hx hb d_Fo_longestAt_9 (by decide) ?_
    refine lv_iload_n hx hb d_Fo_longestAt_10 rfl (lv_at hl 3 rfl) ?_
    refine lv_ishl hx hb d_Fo_longestAt_11 ?_
    refine lv_iconst (v := 1) hx hb d_Fo_longestAt_12 (by decide) ?_
    refine lv_isub hx hb d_Fo_longestAt_13 ?_
    refine lv_istore (lv' := [(4, .int ((1 <<< (y &&& 31)) - 1)), (3, .int 0), (0, .ref (ad 12)), (1, .int x), (2, .int y)]) hx hb d_Fo_longestAt_14 hl (by decide) rfl (fun ls hl => ?_)
    refine lv_iconst (v := -1) hx hb d_Fo_longestAt_16 (by decide) ?_
    refine lv_istore (lv' := [(5, .int (-1)), (4, .int ((1 <<< (y &&& 31)) - 1)), (3, .int 0), (0, .ref (ad 12)), (1, .int x), (2, .int y)]) hx hb d_Fo_longestAt_17 hl (by decide) rfl (fun ls hl => ?_)
    refine lv_iconst (v := 0) hx hb d_Fo_longestAt_19 (by decide) ?_
    refine lv_istore (lv' := [(6, .int 0), (5, .int (-1)), (4, .int ((1 <<< (y &&& 31)) - 1)), (3, .int 0), (0, .ref (ad 12)), (1, .int x), (2, .int y)]) hx hb d_Fo_longestAt_20 hl (by decide) rfl (fun ls hl => ?_)
    exact lp (by omega) (k + 2) 0 (by omega) (by omega) _ _ _ (by rw [if_neg (by omega)]; rfl) ls (lv_sub hl [0, 1, 2, 3, 4, 5, 6] rfl)
  · have hkn : n ≤ k := by
      rw [hk, hn, nI_ltI (by omega) (by omega)] at c3; omega
    refine lv_iconst (v := -1) hx hb d_Fo_longestAt_5 (by decide) ?_
    exact ok_iretR F hr hlk (by rw [if_pos (by omega)]) d_Fo_longestAt_6
theorem x_Fo_longestAt {σ : oS} {x : Int32} {k : Nat} (hk : x = nI k) (hk9 : k < 2147483648) {y : Int32} {n : Nat} (hn : y = nI n) (hn9 : n < 6) (F : CallFix p m c cc nL s args (cw :: tt) own) (hG : Cond.methodLink own index y_Fo_longestAt ∈ tt) (hR : 7 + 1 ≤ R.frames ∧ 8 + (7 + 11) + 182 ≤ R.locals) (hK : va_K D vwCl (ot cI cL) s) (hP : va_P D vwCl (ow cI cL ad σ) H) (hsz : ls.size = nL) (hW : (rest.map fun v => v.category).sum ≤ 8) (hcs : cells ≤ R.cells ∧ slots ≤ R.slots) (hdg : decode cc pc = .ok (.invokevirtual index, 3)) (kk : W p l e R s m args below meth c H locs cells slots Q (F0 m (pc + 3) ls (.int (if n ≤ k then -1 else fo_a σ (k + 1) 0 ((1 <<< (y &&& 31)) - 1) (-1)) :: rest))) : W p l e R s m args below meth c H locs cells slots Q (F0 m pc ls (.int y :: .int x :: .ref (ad 12) :: rest)) :=
  ok_VR (As := [.int x, .int y]) F (c_Fo_longestAt σ hk hk9 hn hn9) 2 (tt_V hG i_Fo_longestAt l_Fo_longestAt in9_Fo k_Fo_longestAt) rfl ⟨rfl, rfl⟩ (by decide +kernel) hR hK hP (12) 4 rfl rfl ow_12 rfl hsz rfl hW hcs hdg kk
end
end
section
-- the face's own words
def ob_c (σ : oS) (x : Int32) : Int32 := if x < 0 then 1 else if x < σ 2 0 0 then 0 else 1
def ob_r (σ : oS) (x : Int32) : Int32 := if x < 0 then 1 else if x < σ 9 0 0 then 0 else 1
def ob_p (σ : oS) (x y : Int32) : Int32 := if ob_c σ x = 0 then (if ob_c σ y = 0 then (if x = y then 1 else 0) else 1) else 1
def ob_v (x : Int32) : Int32 := if x < -10000 then 1 else if x ≤ 10000 then 0 else 1
def ob_u (x y : Int32) : Int32 := (Int32.toUInt32 x >>> (Int32.toUInt32 (6 * y) &&& Int32.toUInt32 31)).toInt32 &&& 63
def ob_s (σ : oS) (i : Nat) (x : Int32) : Nat → Int32
  | 0 => 0
  | k + 1 => ob_s σ i x k + σ 3 i k * ob_u x (nI k)
def ob_first (p : Nat → Bool) : Nat → Nat → Option Nat
  | 0, _ => none
  | f + 1, k => if p k = true then some k else ob_first p f (k + 1)
def ob_o (d : Int32) (b : Int32) : Option Nat → Int32
  | none => d
  | some k => b + nI k
def ob_D (σ : oS) (r u n : Nat) : Option Nat := ob_first (fun k => li_h σ (ls_i r k) (li_s σ (ls_i r k) n) == 0) (r + u) 0
def ob_H1 (σ : oS) (n : Nat) (x : Int32) : Option Nat := ob_first (fun k => decide (¬ ob_u x (nI k) ≤ σ 1 0 k)) n 0
def ob_H2 (σ : oS) (r u n : Nat) (x : Int32) : Option Nat := ob_first (fun k => li_h σ (ls_i r k) (ob_s σ (ls_i r k) x n) == 0) (r + u) 0
def ob_H (σ : oS) (r u n : Nat) (x : Int32) : Int32 := match ob_H1 σ n x with
  | some k => 1 + nI k
  | none => ob_o 0 101 (ob_H2 σ r u n x)
def ob_fd (x y : Int64) : Int64 := if 0 ≤ lg_cmp (x ^^^ y) 0 then x / y else if lg_cmp (x / y * y) x = 0 then x / y else x / y - 1
def ob_R (σ : oS) (r u k : Nat) : Int64 := 1000 * Int32.toInt64 (σ 0 0 k) - ls_wf σ r k (r + u)
def ob_C (σ : oS) (r u : Nat) : Nat → Int64
  | 0 => ls_wr σ r (r + u)
  | k + 1 => if lg_cmp (ob_R σ r u k) 0 ≤ 0 then ob_C σ r u k else ob_C σ r u k + Int32.toInt64 (σ 1 0 k) * ob_R σ r u k
section
variable {l : Launch} {D : va_G} {cI cL : ClassId} {ad : Nat → Nat}
variable {p : Program} {e : Env} {R : Room} {s : State} {m : MethodId} {args : Array Value} {below : List Frame} {meth : Method} {c : Code} {H : Heap} {locs : List Loc} {cells slots : Nat} {Q : State → Prop} {cc : ByteArray} {pc nL index : Nat} {ls : Array Slot} {rest : List Value} {A : Nat → Prop} {H0 : Heap} {cw : Cond} {own : String}
set_option maxHeartbeats 4000000 in
set_option maxRecDepth 100000 in
theorem c_JM_floorDiv (σ : oS) {x : Int64} {y : Int64} (hy0 : ¬ y = 0) : ok_MR l y_JM_floorDiv (Cond.code y_JM_floorDiv b_JM_floorDiv 6 (some .long) :: tt) { frames := 0, cells := 0, slots := 0, locals := 0 } D vwCl (ot cI cL) (ow cI cL ad σ) [.long x, .long y] (some (.long (ob_fd x y))) := by
  refine ok_startRF (cc := b_JM_floorDiv) (own := RJM) (maxL := 6) (ret := (some .long)) (by decide +kernel) rfl rfl (Nat.le_of_ble_eq_true rfl) ?_
  intro p e s m below meth c F hr hlk hP hK ls hl
  have hl : lv_has ls 6 [(0, .long x), (2, .long y)] := hl
  have hx := F.1
  have hb := F.2.1
  refine lv_lload_n hx hb d_JM_floorDiv_0 rfl (lv_at hl 0 rfl) ?_
  refine lv_lload_n hx hb d_JM_floorDiv_1 rfl (lv_at hl 1 rfl) ?_
  refine lv_ldiv hx hb d_JM_floorDiv_2 hy0 ?_
  refine lv_lstore (lv' := [(4, .long (x / y)), (0, .long x), (2, .long y)]) hx hb d_JM_floorDiv_3 hl (by decide) rfl (fun ls hl => ?_)
  refine lv_lload_n hx hb d_JM_floorDiv_5 rfl (lv_at hl 1 rfl) ?_
  refine lv_lload_n hx hb d_JM_floorDiv_6 rfl (lv_at hl 2 rfl) ?_
  refine lv_lxor hx hb d_JM_floorDiv_7 ?_
  refine lv_lconst (v := 0) hx hb d_JM_floorDiv_8 (by decide) ?_
  refine W.lcmp hx hb d_JM_floorDiv_9 ?_
  refine lv_if_ge (tgt := 27) hx hb d_JM_floorDiv_10 (by decide) (fun c1 => ?_) (fun c1 => ?_)
  · refine lv_lload hx hb d_JM_floorDiv_27 (lv_at hl 0 rfl) ?_
    exact ok_lretR F hr hlk (by simp [ob_fd, c1]) d_JM_floorDiv_29
  · refine lv_lload hx hb d_JM_floorDiv_13 (lv_at hl 0 rfl) ?_
    refine lv_lload_n hx hb d_JM_floorDiv_15 rfl (lv_at hl 2 rfl) ?_
    refine lv_lmul hx hb d_JM_floorDiv_16 ?_
    refine lv_lload_n hx hb d_JM_floorDiv_17 rfl (lv_at hl 1 rfl) ?_
    refine W.lcmp hx hb d_JM_floorDiv_18 ?_
    refine lv_if_eq (tgt := 27) hx hb d_JM_floorDiv_19 (by decide) (fun c2 => ?_) (fun c2 => ?_)
    · refine lv_lload hx hb d_JM_floorDiv_27 (lv_at hl 0 rfl) ?_
      exact ok_lretR F hr hlk (by simp [ob_fd, c1, c2]) d_JM_floorDiv_29
    · refine lv_lload hx hb d_JM_floorDiv_22 (lv_at hl 0 rfl) ?_
      refine lv_lconst (v := 1) hx hb d_JM_floorDiv_24 (by decide) ?_
      refine lv_lsub hx hb d_JM_floorDiv_25 ?_
      exact ok_lretR F hr hlk (by simp [ob_fd, c1, c2]) d_JM_floorDiv_26
theorem x_JM_floorDiv {σ : oS} {x : Int64} {y : Int64} (hy0 : ¬ y = 0) (F : CallFix p m c cc nL s args (cw :: tt) own) (hG : Cond.methodLink own index y_JM_floorDiv ∈ tt) (hR : 0 + 1 ≤ R.frames ∧ 8 + (6 + 11) + 0 ≤ R.locals) (hK : va_K D vwCl (ot cI cL) s) (hP : va_P D vwCl (ow cI cL ad σ) H) (hsz : ls.size = nL) (hW : (rest.map fun v => v.category).sum ≤ 8) (hcs : cells ≤ R.cells ∧ slots ≤ R.slots) (hdg : decode cc pc = .ok (.invokestatic index, 3)) (kk : W p l e R s m args below meth c H locs cells slots Q (F0 m (pc + 3) ls (.long (ob_fd x y) :: rest))) : W p l e R s m args below meth c H locs cells slots Q (F0 m pc ls (.long y :: .long x :: rest)) :=
  ok_SRJ (As := [.long x, .long y]) F (c_JM_floorDiv σ hy0) 2 (tt_SJ hG s_JM_floorDiv in9_JM k_JM_floorDiv) rfl ⟨rfl, rfl⟩ (by decide +kernel) hR hK hP rfl hsz rfl hW hcs hdg kk
set_option maxHeartbeats 4000000 in
set_option maxRecDepth 100000 in
theorem c_OB_isNoColumn (σ : oS) {x : Int32} : ok_MR l y_OB_isNoColumn (Cond.code y_OB_isNoColumn b_OB_isNoColumn 2 (some .boolean) :: tt) { frames := 1, cells := 0, slots := 0, locals := 20 } D vwCl (ot cI cL) (ow cI cL ad σ) [.ref (ad 0), .int x] (some (.int (ob_c σ x))) := by
  refine ok_startR (cc := b_OB_isNoColumn) (own := ROB) (maxL := 2) (ret := (some .boolean)) (by decide +kernel) rfl rfl (Nat.le_of_ble_eq_true rfl) ?_
  intro p e s m below meth c F hr hlk hP hK ls hl
  have hl : lv_has ls 2 [(0, .ref (ad 0)), (1, .int x)] := hl
  have hx := F.1
  have hb := F.2.1
  refine lv_iload_n hx hb d_OB_isNoColumn_0 rfl (lv_at hl 1 rfl) ?_
  refine lv_if_lt (tgt := 15) hx hb d_OB_isNoColumn_1 (by decide) (fun c1 => ?_) (fun c1 => ?_)
  · refine lv_iconst (v := 1) hx hb d_OB_isNoColumn_15 (by decide) ?_
    refine lv_goto (tgt := 20) hx hb d_OB_isNoColumn_16 (by decide) ?_
    exact ok_zretR F hr hlk (rfl) (by simp [ob_c, c1]) d_OB_isNoColumn_20
  · refine lv_iload_n hx hb d_OB_isNoColumn_4 rfl (lv_at hl 1 rfl) ?_
    refine lv_aload_n hx hb d_OB_isNoColumn_5 rfl (lv_at hl 0 rfl) ?_
    refine gf_OB_columns F hK hP d_OB_isNoColumn_6 ?_
    refine x_Co_count F (tt1 174 rfl rfl) ⟨Nat.le_of_ble_eq_true rfl, Nat.le_of_ble_eq_true rfl⟩ hK hP hl.1 (Nat.le_of_ble_eq_true rfl) ⟨Nat.zero_le _, Nat.zero_le _⟩ d_OB_isNoColumn_9 ?_
    refine lv_icmp_lt (tgt := 19) hx hb d_OB_isNoColumn_12 (by decide) (fun c2 => ?_) (fun c2 => ?_)
    · refine lv_iconst (v := 0) hx hb d_OB_isNoColumn_19 (by decide) ?_
      exact ok_zretR F hr hlk (rfl) (by simp [ob_c, c1, c2]) d_OB_isNoColumn_20
    · refine lv_iconst (v := 1) hx hb d_OB_isNoColumn_15 (by decide) ?_
      refine lv_goto (tgt := 20) hx hb d_OB_isNoColumn_16 (by decide) ?_
      exact ok_zretR F hr hlk (rfl) (by simp [ob_c, c1, c2]) d_OB_isNoColumn_20
theorem x_OB_isNoColumn {σ : oS} {x : Int32} (F : CallFix p m c cc nL s args (cw :: tt) own) (hG : Cond.methodLink own index y_OB_isNoColumn ∈ tt) (hR : 1 + 1 ≤ R.frames ∧ 8 + (2 + 11) + 20 ≤ R.locals) (hK : va_K D vwCl (ot cI cL) s) (hP : va_P D vwCl (ow cI cL ad σ) H) (hsz : ls.size = nL) (hW : (rest.map fun v => v.category).sum ≤ 8) (hcs : cells ≤ R.cells ∧ slots ≤ R.slots) (hdg : decode cc pc = .ok (.invokevirtual index, 3)) (kk : W p l e R s m args below meth c H locs cells slots Q (F0 m (pc + 3) ls (.int (ob_c σ x) :: rest))) : W p l e R s m args below meth c H locs cells slots Q (F0 m pc ls (.int x :: .ref (ad 0) :: rest)) :=
  ok_VR (As := [.int x]) F (c_OB_isNoColumn σ) 1 (tt_V hG i_OB_isNoColumn l_OB_isNoColumn in9_OB k_OB_isNoColumn) rfl ⟨rfl, rfl⟩ (by decide +kernel) hR hK hP (0) 5 rfl rfl ow_0 rfl hsz rfl hW hcs hdg kk
set_option maxHeartbeats 4000000 in
set_option maxRecDepth 100000 in
theorem c_OB_isNoRow (σ : oS) {x : Int32} : ok_MR l y_OB_isNoRow (Cond.code y_OB_isNoRow b_OB_isNoRow 2 (some .boolean) :: tt) { frames := 1, cells := 0, slots := 0, locals := 20 } D vwCl (ot cI cL) (ow cI cL ad σ) [.ref (ad 0), .int x] (some (.int (ob_r σ x))) := by
  refine ok_startR (cc := b_OB_isNoRow) (own := ROB) (maxL := 2) (ret := (some .boolean)) (by decide +kernel) rfl rfl (Nat.le_of_ble_eq_true rfl) ?_
  intro p e s m below meth c F hr hlk hP hK ls hl
  have hl : lv_has ls 2 [(0, .ref (ad 0)), (1, .int x)] := hl
  have hx := F.1
  have hb := F.2.1
  refine lv_iload_n hx hb d_OB_isNoRow_0 rfl (lv_at hl 1 rfl) ?_
  refine lv_if_lt (tgt := 15) hx hb d_OB_isNoRow_1 (by decide) (fun c1 => ?_) (fun c1 => ?_)
  · refine lv_iconst (v := 1) hx hb d_OB_isNoRow_15 (by decide) ?_
    refine lv_goto (tgt := 20) hx hb d_OB_isNoRow_16 (by decide) ?_
    exact ok_zretR F hr hlk (rfl) (by simp [ob_r, c1]) d_OB_isNoRow_20
  · refine lv_iload_n hx hb d_OB_isNoRow_4 rfl (lv_at hl 1 rfl) ?_
    refine lv_aload_n hx hb d_OB_isNoRow_5 rfl (lv_at hl 0 rfl) ?_
    refine gf_OB_lines F hK hP d_OB_isNoRow_6 ?_
    refine x_Ls_rowCount F (tt2 124 rfl rfl) ⟨Nat.le_of_ble_eq_true rfl, Nat.le_of_ble_eq_true rfl⟩ hK hP hl.1 (Nat.le_of_ble_eq_true rfl) ⟨Nat.zero_le _, Nat.zero_le _⟩ d_OB_isNoRow_9 ?_
    refine lv_icmp_lt (tgt := 19) hx hb d_OB_isNoRow_12 (by decide) (fun c2 => ?_) (fun c2 => ?_)
    · refine lv_iconst (v := 0) hx hb d_OB_isNoRow_19 (by decide) ?_
      exact ok_zretR F hr hlk (rfl) (by simp [ob_r, c1, c2]) d_OB_isNoRow_20
    · refine lv_iconst (v := 1) hx hb d_OB_isNoRow_15 (by decide) ?_
      refine lv_goto (tgt := 20) hx hb d_OB_isNoRow_16 (by decide) ?_
      exact ok_zretR F hr hlk (rfl) (by simp [ob_r, c1, c2]) d_OB_isNoRow_20
theorem x_OB_isNoRow {σ : oS} {x : Int32} (F : CallFix p m c cc nL s args (cw :: tt) own) (hG : Cond.methodLink own index y_OB_isNoRow ∈ tt) (hR : 1 + 1 ≤ R.frames ∧ 8 + (2 + 11) + 20 ≤ R.locals) (hK : va_K D vwCl (ot cI cL) s) (hP : va_P D vwCl (ow cI cL ad σ) H) (hsz : ls.size = nL) (hW : (rest.map fun v => v.category).sum ≤ 8) (hcs : cells ≤ R.cells ∧ slots ≤ R.slots) (hdg : decode cc pc = .ok (.invokevirtual index, 3)) (kk : W p l e R s m args below meth c H locs cells slots Q (F0 m (pc + 3) ls (.int (ob_r σ x) :: rest))) : W p l e R s m args below meth c H locs cells slots Q (F0 m pc ls (.int x :: .ref (ad 0) :: rest)) :=
  ok_VR (As := [.int x]) F (c_OB_isNoRow σ) 1 (tt_V hG i_OB_isNoRow l_OB_isNoRow in9_OB k_OB_isNoRow) rfl ⟨rfl, rfl⟩ (by decide +kernel) hR hK hP (0) 5 rfl rfl ow_0 rfl hsz rfl hW hcs hdg kk
set_option maxHeartbeats 4000000 in
set_option maxRecDepth 100000 in
theorem c_OB_isNoPair (σ : oS) {x : Int32} {y : Int32} : ok_MR l y_OB_isNoPair (Cond.code y_OB_isNoPair b_OB_isNoPair 3 (some .boolean) :: tt) { frames := 2, cells := 0, slots := 0, locals := 41 } D vwCl (ot cI cL) (ow cI cL ad σ) [.ref (ad 0), .int x, .int y] (some (.int (ob_p σ x y))) := by
  refine ok_startR (cc := b_OB_isNoPair) (own := ROB) (maxL := 3) (ret := (some .boolean)) (by decide +kernel) rfl rfl (Nat.le_of_ble_eq_true rfl) ?_
  intro p e s m below meth c F hr hlk hP hK ls hl
  have hl : lv_has ls 3 [(0, .ref (ad 0)), (1, .int x), (2, .int y)] := hl
  have hx := F.1
  have hb := F.2.1
  refine lv_aload_n hx hb d_OB_isNoPair_0 rfl (lv_at hl 0 rfl) ?_
  refine lv_iload_n hx hb d_OB_isNoPair_1 rfl (lv_at hl 1 rfl) ?_
  refine x_OB_isNoColumn F (tt2 177 rfl rfl) ⟨Nat.le_of_ble_eq_true rfl, Nat.le_of_ble_eq_true rfl⟩ hK hP hl.1 (Nat.le_of_ble_eq_true rfl) ⟨Nat.zero_le _, Nat.zero_le _⟩ d_OB_isNoPair_2 ?_
  refine lv_if_ne (tgt := 21) hx hb d_OB_isNoPair_5 (by decide) (fun c1 => ?_) (fun c1 => ?_)
  · refine lv_iconst (v := 1) hx hb d_OB_isNoPair_21 (by decide) ?_
    refine lv_goto (tgt := 26) hx hb d_OB_isNoPair_22 (by decide) ?_
    exact ok_zretR F hr hlk (rfl) (by simp [ob_p, c1]) d_OB_isNoPair_26
  · refine lv_aload_n hx hb d_OB_isNoPair_8 rfl (lv_at hl 0 rfl) ?_
    refine lv_iload_n hx hb d_OB_isNoPair_9 rfl (lv_at hl 2 rfl) ?_
    refine x_OB_isNoColumn F (tt2 177 rfl rfl) ⟨Nat.le_of_ble_eq_true rfl, Nat.le_of_ble_eq_true rfl⟩ hK hP hl.1 (Nat.le_of_ble_eq_true rfl) ⟨Nat.zero_le _, Nat.zero_le _⟩ d_OB_isNoPair_10 ?_
    refine lv_if_ne (tgt := 21) hx hb d_OB_isNoPair_13 (by decide) (fun c2 => ?_) (fun c2 => ?_)
    · refine lv_iconst (v := 1) hx hb d_OB_isNoPair_21 (by decide) ?_
      refine lv_goto (tgt := 26) hx hb d_OB_isNoPair_22 (by decide) ?_
      exact ok_zretR F hr hlk (rfl) (by simp [ob_p, c1, c2]) d_OB_isNoPair_26
    · refine lv_iload_n hx hb d_OB_isNoPair_16 rfl (lv_at hl 1 rfl) ?_
      refine lv_iload_n hx hb d_OB_isNoPair_17 rfl (lv_at hl 2 rfl) ?_
      refine lv_icmp_ne (tgt := 25) hx hb d_OB_isNoPair_18 (by decide) (fun c3 => ?_) (fun c3 => ?_)
      · refine lv_iconst (v := 0) hx hb d_OB_isNoPair_25 (by decide) ?_
        exact ok_zretR F hr hlk (rfl) (by simp [ob_p, c1, c2, c3]) d_OB_isNoPair_26
      · refine lv_iconst (v := 1) hx hb d_OB_isNoPair_21 (by decide) ?_
        refine lv_goto (tgt := 26) hx hb d_OB_isNoPair_22 (by decide) ?_
        exact ok_zretR F hr hlk (rfl) (by simp [ob_p, c1, c2, c3]) d_OB_isNoPair_26
theorem x_OB_isNoPair {σ : oS} {x : Int32} {y : Int32} (F : CallFix p m c cc nL s args (cw :: tt) own) (hG : Cond.methodLink own index y_OB_isNoPair ∈ tt) (hR : 2 + 1 ≤ R.frames ∧ 8 + (3 + 11) + 41 ≤ R.locals) (hK : va_K D vwCl (ot cI cL) s) (hP : va_P D vwCl (ow cI cL ad σ) H) (hsz : ls.size = nL) (hW : (rest.map fun v => v.category).sum ≤ 8) (hcs : cells ≤ R.cells ∧ slots ≤ R.slots) (hdg : decode cc pc = .ok (.invokevirtual index, 3)) (kk : W p l e R s m args below meth c H locs cells slots Q (F0 m (pc + 3) ls (.int (ob_p σ x y) :: rest))) : W p l e R s m args below meth c H locs cells slots Q (F0 m pc ls (.int y :: .int x :: .ref (ad 0) :: rest)) :=
  ok_VR (As := [.int x, .int y]) F (c_OB_isNoPair σ) 2 (tt_V hG i_OB_isNoPair l_OB_isNoPair in9_OB k_OB_isNoPair) rfl ⟨rfl, rfl⟩ (by decide +kernel) hR hK hP (0) 5 rfl rfl ow_0 rfl hsz rfl hW hcs hdg kk
set_option maxHeartbeats 4000000 in
set_option maxRecDepth 100000 in
theorem c_OB_isNoRight (σ : oS) {x : Int32} : ok_MR l y_OB_isNoRight (Cond.code y_OB_isNoRight b_OB_isNoRight 1 (some .boolean) :: tt) { frames := 0, cells := 0, slots := 0, locals := 0 } D vwCl (ot cI cL) (ow cI cL ad σ) [.int x] (some (.int (ob_v x))) := by
  refine ok_startR (cc := b_OB_isNoRight) (own := ROB) (maxL := 1) (ret := (some .boolean)) (by decide +kernel) rfl rfl (Nat.le_of_ble_eq_true rfl) ?_
  intro p e s m below meth c F hr hlk hP hK ls hl
  have hl : lv_has ls 1 [(0, .int x)] := hl
  have hx := F.1
  have hb := F.2.1
  refine lv_iload_n hx hb d_OB_isNoRight_0 rfl (lv_at hl 0 rfl) ?_
  refine lv_sipush (v := -10000) hx hb d_OB_isNoRight_1 (by decide) ?_
  refine lv_icmp_lt (tgt := 14) hx hb d_OB_isNoRight_4 (by decide) (fun c1 => ?_) (fun c1 => ?_)
  · refine lv_iconst (v := 1) hx hb d_OB_isNoRight_14 (by decide) ?_
    refine lv_goto (tgt := 19) hx hb d_OB_isNoRight_15 (by decide) ?_
    exact ok_zretR F hr hlk (rfl) (by simp [ob_v, c1]) d_OB_isNoRight_19
  · refine lv_iload_n hx hb d_OB_isNoRight_7 rfl (lv_at hl 0 rfl) ?_
    refine lv_sipush (v := 10000) hx hb d_OB_isNoRight_8 (by decide) ?_
    refine lv_icmp_le (tgt := 18) hx hb d_OB_isNoRight_11 (by decide) (fun c2 => ?_) (fun c2 => ?_)
    · refine lv_iconst (v := 0) hx hb d_OB_isNoRight_18 (by decide) ?_
      exact ok_zretR F hr hlk (rfl) (by simp [ob_v, c1, c2]) d_OB_isNoRight_19
    · refine lv_iconst (v := 1) hx hb d_OB_isNoRight_14 (by decide) ?_
      refine lv_goto (tgt := 19) hx hb d_OB_isNoRight_15 (by decide) ?_
      exact ok_zretR F hr hlk (rfl) (by simp [ob_v, c1, c2]) d_OB_isNoRight_19
theorem x_OB_isNoRight {σ : oS} {x : Int32} (F : CallFix p m c cc nL s args (cw :: tt) ROB) (hG : Cond.methodLink ROB index y_OB_isNoRight ∈ tt) (hR : 0 + 1 ≤ R.frames ∧ 8 + (1 + 11) + 0 ≤ R.locals) (hK : va_K D vwCl (ot cI cL) s) (hP : va_P D vwCl (ow cI cL ad σ) H) (hsz : ls.size = nL) (hW : (rest.map fun v => v.category).sum ≤ 8) (hcs : cells ≤ R.cells ∧ slots ≤ R.slots) (hdg : decode cc pc = .ok (.invokestatic index, 3)) (kk : W p l e R s m args below meth c H locs cells slots Q (F0 m (pc + 3) ls (.int (ob_v x) :: rest))) : W p l e R s m args below meth c H locs cells slots Q (F0 m pc ls (.int x :: rest)) :=
  ok_SR (As := [.int x]) F (c_OB_isNoRight σ) 1 (tt_S hG s_OB_isNoRight in9_OB k_OB_isNoRight) rfl ⟨rfl, rfl⟩ (by decide +kernel) hR hK hP rfl hsz rfl hW hcs hdg kk
set_option maxHeartbeats 4000000 in
set_option maxRecDepth 100000 in
theorem c_OB_packedNumber (σ : oS) {x : Int32} {y : Int32} : ok_MR l y_OB_packedNumber (Cond.code y_OB_packedNumber b_OB_packedNumber 2 (some .int) :: tt) { frames := 0, cells := 0, slots := 0, locals := 0 } D vwCl (ot cI cL) (ow cI cL ad σ) [.int x, .int y] (some (.int (ob_u x y))) := by
  refine ok_startR (cc := b_OB_packedNumber) (own := ROB) (maxL := 2) (ret := (some .int)) (by decide +kernel) rfl rfl (Nat.le_of_ble_eq_true rfl) ?_
  intro p e s m below meth c F hr hlk hP hK ls hl
  have hl : lv_has ls 2 [(0, .int x), (1, .int y)] := hl
  have hx := F.1
  have hb := F.2.1
  refine lv_iload_n hx hb d_OB_packedNumber_0 rfl (lv_at hl 0 rfl) ?_
  refine lv_bipush (v := 6) hx hb d_OB_packedNumber_1 (by decide) ?_
  refine lv_iload_n hx hb d_OB_packedNumber_3 rfl (lv_at hl 1 rfl) ?_
  refine lv_imul hx hb d_OB_packedNumber_4 ?_
  refine lv_iushr hx hb d_OB_packedNumber_5 rfl ?_
  refine lv_bipush (v := 63) hx hb d_OB_packedNumber_6 (by decide) ?_
  refine lv_iand hx hb d_OB_packedNumber_8 ?_
  exact ok_iretR F hr hlk (rfl) d_OB_packedNumber_9
theorem x_OB_packedNumber {σ : oS} {x : Int32} {y : Int32} (F : CallFix p m c cc nL s args (cw :: tt) ROB) (hG : Cond.methodLink ROB index y_OB_packedNumber ∈ tt) (hR : 0 + 1 ≤ R.frames ∧ 8 + (2 + 11) + 0 ≤ R.locals) (hK : va_K D vwCl (ot cI cL) s) (hP : va_P D vwCl (ow cI cL ad σ) H) (hsz : ls.size = nL) (hW : (rest.map fun v => v.category).sum ≤ 8) (hcs : cells ≤ R.cells ∧ slots ≤ R.slots) (hdg : decode cc pc = .ok (.invokestatic index, 3)) (kk : W p l e R s m args below meth c H locs cells slots Q (F0 m (pc + 3) ls (.int (ob_u x y) :: rest))) : W p l e R s m args below meth c H locs cells slots Q (F0 m pc ls (.int y :: .int x :: rest)) :=
  ok_SR (As := [.int x, .int y]) F (c_OB_packedNumber σ) 2 (tt_S hG s_OB_packedNumber in9_OB k_OB_packedNumber) rfl ⟨rfl, rfl⟩ (by decide +kernel) hR hK hP rfl hsz rfl hW hcs hdg kk
set_option maxHeartbeats 4000000 in
set_option maxRecDepth 100000 in
theorem c_OB_packedSum (σ : oS) {n : Nat} (hn : σ 2 0 0 = nI n) (hn9 : n ≤ 5) {x : Int32} {i : Nat} (hi : i < 8) : ok_MR l y_OB_packedSum (Cond.code y_OB_packedSum b_OB_packedSum 5 (some .int) :: tt) { frames := 1, cells := 0, slots := 0, locals := 21 } D vwCl (ot cI cL) (ow cI cL ad σ) [.ref (ad 0), .int x, .ref (ad (4 * i + 14))] (some (.int (ob_s σ i x n))) := by
  refine ok_startR (cc := b_OB_packedSum) (own := ROB) (maxL := 5) (ret := (some .int)) (by decide +kernel) rfl rfl (Nat.le_of_ble_eq_true rfl) ?_
  intro p e s m below meth c F hr hlk hP hK ls hl
  have hl : lv_has ls 5 [(0, .ref (ad 0)), (1, .int x), (2, .ref (ad (4 * i + 14)))] := hl
  have hx := F.1
  have hb := F.2.1
  have lp : ∀ (f k : Nat), k ≤ n → n - k < f → ∀ ls : Array Slot, lv_has ls 5 [(4, .int (nI k)), (3, .int (ob_s σ i x k)), (0, .ref (ad 0)), (1, .int x), (2, .ref (ad (4 * i + 14)))] → W p l e { frames := 1, cells := 0, slots := 0, locals := 21 } s m ([.ref (ad 0), .int x, .ref (ad (4 * i + 14))] : List Value).toArray below meth c s.heap [] 0 0 (MQ below (ok_R (some (.int (ob_s σ i x n)))) ([.ref (ad 0), .int x, .ref (ad (4 * i + 14))] : List Value).toArray s 0 0 (fun _ => False)) (F0 m 5 ls []) := by
    intro f
    induction f with
    | zero => intro k h1 h2; omega
    | succ f ih =>
      intro k h1 h2 ls hl
      refine lv_iload hx hb d_OB_packedSum_5 (lv_at hl 0 rfl) ?_
      refine lv_aload_n hx hb d_OB_packedSum_7 rfl (lv_at hl 2 rfl) ?_
      refine gf_OB_columns F hK hP d_OB_packedSum_8 ?_
      refine x_Co_count F (tt1 174 rfl rfl) ⟨Nat.le_of_ble_eq_true rfl, Nat.le_of_ble_eq_true rfl⟩ hK hP hl.1 (Nat.le_of_ble_eq_true rfl) ⟨Nat.zero_le _, Nat.zero_le _⟩ d_OB_packedSum_11 ?_
      refine lv_icmp_ge (tgt := 39) hx hb d_OB_packedSum_14 (by decide) (fun c1 => ?_) (fun c1 => ?_)
      · have hkn : n = k := by
          rw [hn, nI_leI (by omega) (by omega)] at c1; omega
        subst hkn
        refine lv_iload_n hx hb d_OB_packedSum_39 rfl (lv_at hl 1 rfl) ?_
        exact ok_iretR F hr hlk (rfl) d_OB_packedSum_40
      · have hkn : k < n := by
          rw [hn, nI_leI (by omega) (by omega)] at c1; omega
        refine lv_iload_n hx hb d_OB_packedSum_17 rfl (lv_at hl 1 rfl) ?_
        refine lv_aload_n hx hb d_OB_packedSum_18 rfl (lv_at hl 4 rfl) ?_
        refine lv_iload hx hb d_OB_packedSum_19 (lv_at hl 0 rfl) ?_
        refine x_Li_factorOf (i := i) hi (j := k) rfl (by omega) F (tt1 235 rfl rfl) ⟨Nat.le_of_ble_eq_true rfl, Nat.le_of_ble_eq_true rfl⟩ hK hP hl.1 (Nat.le_of_ble_eq_true rfl) ⟨Nat.zero_le _, Nat.zero_le _⟩ d_OB_packedSum_21 ?_
        refine lv_iload_n hx hb d_OB_packedSum_24 rfl (lv_at hl 3 rfl) ?_
        refine lv_iload hx hb d_OB_packedSum_25 (lv_at hl 0 rfl) ?_
        refine x_OB_packedNumber F (tt1 228 rfl rfl) ⟨Nat.le_of_ble_eq_true rfl, Nat.le_of_ble_eq_true rfl⟩ hK hP hl.1 (Nat.le_of_ble_eq_true rfl) ⟨Nat.zero_le _, Nat.zero_le _⟩ d_OB_packedSum_27 ?_
        refine lv_imul hx hb d_OB_packedSum_30 ?_
        refine lv_iadd hx hb d_OB_packedSum_31 ?_
        refine lv_istore_n (lv' := [(3, .int ((ob_s σ i x k) + ((σ 3 i k) * (ob_u x (nI k))))), (4, .int (nI k)), (0, .ref (ad 0)), (1, .int x), (2, .ref (ad (4 * i + 14)))]) hx hb d_OB_packedSum_32 rfl hl (by decide) rfl (fun ls hl => ?_)
        refine lv_iinc (v := nI (k + 1)) (lv' := [(4, .int (nI (k + 1))), (3, .int ((ob_s σ i x k) + ((σ 3 i k) * (ob_u x (nI k))))), (0, .ref (ad 0)), (1, .int x), (2, .ref (ad (4 * i + 14)))]) hx hb d_OB_packedSum_33 hl (k := 1) rfl (nI_inc _) (by decide) rfl (fun ls hl => ?_)
        refine lv_goto (tgt := 5) hx hb d_OB_packedSum_36 (by decide) ?_
        exact ih (k + 1) (by omega) (by omega) ls (lv_sub hl [0, 1, 2, 3, 4] rfl)
  refine lv_iconst (v := 0) hx hb d_OB_packedSum_0 (by decide) ?_
  refine lv_istore_n (lv' := [(3, .int 0), (0, .ref (ad 0)), (1, .int x), (2, .ref (ad (4 * i + 14)))]) hx hb d_OB_packedSum_1 rfl hl (by decide) rfl (fun ls hl => ?_)
  refine lv_iconst (v := 0) hx hb d_OB_packedSum_2 (by decide) ?_
  refine lv_istore (lv' := [(4, .int 0), (3, .int 0), (0, .ref (ad 0)), (1, .int x), (2, .ref (ad (4 * i + 14)))]) hx hb d_OB_packedSum_3 hl (by decide) rfl (fun ls hl => ?_)
  exact lp (n + 1) 0 (by omega) (by omega) ls (lv_sub hl [0, 1, 2, 3, 4] rfl)
theorem x_OB_packedSum {σ : oS} {n : Nat} (hn : σ 2 0 0 = nI n) (hn9 : n ≤ 5) {x : Int32} {i : Nat} (hi : i < 8) (F : CallFix p m c cc nL s args (cw :: tt) own) (hG : Cond.methodLink own index y_OB_packedSum ∈ tt) (hR : 1 + 1 ≤ R.frames ∧ 8 + (5 + 11) + 21 ≤ R.locals) (hK : va_K D vwCl (ot cI cL) s) (hP : va_P D vwCl (ow cI cL ad σ) H) (hsz : ls.size = nL) (hW : (rest.map fun v => v.category).sum ≤ 8) (hcs : cells ≤ R.cells ∧ slots ≤ R.slots) (hdg : decode cc pc = .ok (.invokevirtual index, 3)) (kk : W p l e R s m args below meth c H locs cells slots Q (F0 m (pc + 3) ls (.int (ob_s σ i x n) :: rest))) : W p l e R s m args below meth c H locs cells slots Q (F0 m pc ls (.ref (ad (4 * i + 14)) :: .int x :: .ref (ad 0) :: rest)) :=
  ok_VR (As := [.int x, .ref (ad (4 * i + 14))]) F (c_OB_packedSum σ hn hn9 hi) 2 (tt_V hG i_OB_packedSum l_OB_packedSum in9_OB k_OB_packedSum) rfl ⟨rfl, rfl⟩ (by decide +kernel) hR hK hP (0) 5 rfl rfl ow_0 rfl hsz rfl hW hcs hdg kk
set_option maxHeartbeats 4000000 in
set_option maxRecDepth 100000 in
theorem c_OB_certificate (σ : oS) {r : Nat} {u : Nat} (h_r : σ 9 0 0 = nI r) (h_u : σ 10 0 0 = nI u) (hr4 : r ≤ 4) (hu4 : u ≤ 4) {n : Nat} (hn : σ 2 0 0 = nI n) (hn9 : n ≤ 5) : ok_MR l y_OB_certificate (Cond.code y_OB_certificate b_OB_certificate 6 (some .long) :: tt) { frames := 2, cells := 0, slots := 0, locals := 45 } D vwCl (ot cI cL) (ow cI cL ad σ) [.ref (ad 0)] (some (.long (ob_fd (ob_C σ r u n) 1000))) := by
  refine ok_startR (cc := b_OB_certificate) (own := ROB) (maxL := 6) (ret := (some .long)) (by decide +kernel) rfl rfl (Nat.le_of_ble_eq_true rfl) ?_
  intro p e s m below meth c F hr hlk hP hK ls hl
  have hl : lv_has ls 6 [(0, .ref (ad 0))] := hl
  have hx := F.1
  have hb := F.2.1
  have lp : ∀ (f k : Nat), k ≤ n → n - k < f → ∀ ls : Array Slot, lv_has ls 6 [(3, .int (nI k)), (1, .long (ob_C σ r u k)), (0, .ref (ad 0))] → W p l e { frames := 2, cells := 0, slots := 0, locals := 45 } s m ([.ref (ad 0)] : List Value).toArray below meth c s.heap [] 0 0 (MQ below (ok_R (some (.long (ob_fd (ob_C σ r u n) 1000)))) ([.ref (ad 0)] : List Value).toArray s 0 0 (fun _ => False)) (F0 m 10 ls []) := by
    intro f
    induction f with
    | zero => intro k h1 h2; omega
    | succ f ih =>
      intro k h1 h2 ls hl
      refine lv_iload_n hx hb d_OB_certificate_10 rfl (lv_at hl 0 rfl) ?_
      refine lv_aload_n hx hb d_OB_certificate_11 rfl (lv_at hl 2 rfl) ?_
      refine gf_OB_columns F hK hP d_OB_certificate_12 ?_
      refine x_Co_count F (tt1 174 rfl rfl) ⟨Nat.le_of_ble_eq_true rfl, Nat.le_of_ble_eq_true rfl⟩ hK hP hl.1 (Nat.le_of_ble_eq_true rfl) ⟨Nat.zero_le _, Nat.zero_le _⟩ d_OB_certificate_15 ?_
      refine lv_icmp_ge (tgt := 73) hx hb d_OB_certificate_18 (by decide) (fun c1 => ?_) (fun c1 => ?_)
      · have hkn : k = n := by
          rw [hn, nI_leI (by omega) (by omega)] at c1; omega
        subst hkn
        refine lv_lload_n hx hb d_OB_certificate_73 rfl (lv_at hl 1 rfl) ?_
        refine lv_ldc2 (v := 1000) hx hb F.2.2.2.1 (F.2.2.2.2 (.constantLong ROB 179 (1000)) (List.mem_cons_of_mem _ (tt1 178 rfl rfl))) d_OB_certificate_74 ?_
        refine x_JM_floorDiv (by decide) F (tt1 195 rfl rfl) ⟨Nat.le_of_ble_eq_true rfl, Nat.le_of_ble_eq_true rfl⟩ hK hP hl.1 (Nat.le_of_ble_eq_true rfl) ⟨Nat.zero_le _, Nat.zero_le _⟩ d_OB_certificate_77 ?_
        exact ok_lretR F hr hlk (rfl) d_OB_certificate_80
      · have hkn : k < n := by
          rw [hn, nI_leI (by omega) (by omega)] at c1; omega
        refine lv_ldc2 (v := 1000) hx hb F.2.2.2.1 (F.2.2.2.2 (.constantLong ROB 179 (1000)) (List.mem_cons_of_mem _ (tt1 178 rfl rfl))) d_OB_certificate_21 ?_
        refine lv_aload_n hx hb d_OB_certificate_24 rfl (lv_at hl 2 rfl) ?_
        refine gf_OB_columns F hK hP d_OB_certificate_25 ?_
        refine lv_iload_n hx hb d_OB_certificate_28 rfl (lv_at hl 0 rfl) ?_
        refine x_Co_worth (j := k) rfl (by omega) F (tt1 179 rfl rfl) ⟨Nat.le_of_ble_eq_true rfl, Nat.le_of_ble_eq_true rfl⟩ hK hP hl.1 (Nat.le_of_ble_eq_true rfl) ⟨Nat.zero_le _, Nat.zero_le _⟩ d_OB_certificate_29 ?_
        refine lv_i2l hx hb d_OB_certificate_32 rfl ?_
        refine lv_lmul hx hb d_OB_certificate_33 ?_
        refine lv_aload_n hx hb d_OB_certificate_34 rfl (lv_at hl 2 rfl) ?_
        refine gf_OB_lines F hK hP d_OB_certificate_35 ?_
        refine lv_iload_n hx hb d_OB_certificate_38 rfl (lv_at hl 0 rfl) ?_
        refine x_Ls_weightedFactors (r := r) (u := u) h_r h_u hr4 hu4 (j := k) rfl (by omega) F (tt1 183 rfl rfl) ⟨Nat.le_of_ble_eq_true rfl, Nat.le_of_ble_eq_true rfl⟩ hK hP hl.1 (Nat.le_of_ble_eq_true rfl) ⟨Nat.zero_le _, Nat.zero_le _⟩ d_OB_certificate_39 ?_
        refine lv_lsub hx hb d_OB_certificate_42 ?_
        refine lv_lstore (lv' := [(4, .long ((1000 * (Int32.toInt64 (σ 0 0 k))) - (ls_wf σ r k (r + u)))), (3, .int (nI k)), (1, .long (ob_C σ r u k)), (0, .ref (ad 0))]) hx hb d_OB_certificate_43 hl (by decide) rfl (fun ls hl => ?_)
        refine lv_lload hx hb d_OB_certificate_45 (lv_at hl 0 rfl) ?_
        refine lv_lconst (v := 0) hx hb d_OB_certificate_47 (by decide) ?_
        refine W.lcmp hx hb d_OB_certificate_48 ?_
        refine lv_if_le (tgt := 67) hx hb d_OB_certificate_49 (by decide) (fun c2 => ?_) (fun c2 => ?_)
        · refine lv_iinc (v := nI (k + 1)) (lv' := [(3, .int (nI (k + 1))), (4, .long ((1000 * (Int32.toInt64 (σ 0 0 k))) - (ls_wf σ r k (r + u)))), (1, .long (ob_C σ r u k)), (0, .ref (ad 0))]) hx hb d_OB_certificate_67 hl (k := 1) rfl (nI_inc _) (by decide) rfl (fun ls hl => ?_)
          refine lv_goto (tgt := 10) hx hb d_OB_certificate_70 (by decide) ?_
          have e9 : ob_C σ r u (k + 1) = ob_C σ r u k := by
            rw [ob_C]; unfold ob_R; first | rw [if_pos c2] | rw [if_neg c2]
          exact ih (k + 1) (by omega) (by omega) ls (by rw [e9]; exact (lv_sub hl [0, 2, 3] rfl))
        · refine lv_lload_n hx hb d_OB_certificate_52 rfl (lv_at hl 2 rfl) ?_
          refine lv_aload_n hx hb d_OB_certificate_53 rfl (lv_at hl 3 rfl) ?_
          refine gf_OB_columns F hK hP d_OB_certificate_54 ?_
          refine lv_iload_n hx hb d_OB_certificate_57 rfl (lv_at hl 1 rfl) ?_
          refine x_Co_top (j := k) rfl (by omega) F (tt1 191 rfl rfl) ⟨Nat.le_of_ble_eq_true rfl, Nat.le_of_ble_eq_true rfl⟩ hK hP hl.1 (Nat.le_of_ble_eq_true rfl) ⟨Nat.zero_le _, Nat.zero_le _⟩ d_OB_certificate_58 ?_
          refine lv_i2l hx hb d_OB_certificate_61 rfl ?_
          refine lv_lload hx hb d_OB_certificate_62 (lv_at hl 0 rfl) ?_
          refine lv_lmul hx hb d_OB_certificate_64 ?_
          refine lv_ladd hx hb d_OB_certificate_65 ?_
          refine lv_lstore_n (lv' := [(1, .long ((ob_C σ r u k) + ((Int32.toInt64 (σ 1 0 k)) * ((1000 * (Int32.toInt64 (σ 0 0 k))) - (ls_wf σ r k (r + u)))))), (4, .long ((1000 * (Int32.toInt64 (σ 0 0 k))) - (ls_wf σ r k (r + u)))), (3, .int (nI k)), (0, .ref (ad 0))]) hx hb d_OB_certificate_66 rfl hl (by decide) rfl (fun ls hl => ?_)
          refine lv_iinc (v := nI (k + 1)) (lv' := [(3, .int (nI (k + 1))), (1, .long ((ob_C σ r u k) + ((Int32.toInt64 (σ 1 0 k)) * ((1000 * (Int32.toInt64 (σ 0 0 k))) - (ls_wf σ r k (r + u)))))), (4, .long ((1000 * (Int32.toInt64 (σ 0 0 k))) - (ls_wf σ r k (r + u)))), (0, .ref (ad 0))]) hx hb d_OB_certificate_67 hl (k := 2) rfl (nI_inc _) (by decide) rfl (fun ls hl => ?_)
          refine lv_goto (tgt := 10) hx hb d_OB_certificate_70 (by decide) ?_
          have e9 : ob_C σ r u (k + 1) = (ob_C σ r u k) + ((Int32.toInt64 (σ 1 0 k)) * ((1000 * (Int32.toInt64 (σ 0 0 k))) - (ls_wf σ r k (r + u)))) := by
            rw [ob_C]; unfold ob_R; first | rw [if_pos c2] | rw [if_neg c2]
          exact ih (k + 1) (by omega) (by omega) ls (by rw [e9]; exact (lv_sub hl [0, 1, 3] rfl))
  refine lv_aload_n hx hb d_OB_certificate_0 rfl (lv_at hl 0 rfl) ?_
  refine gf_OB_lines F hK hP d_OB_certificate_1 ?_
  refine x_Ls_weightedRights (r := r) (u := u) h_r h_u hr4 hu4 F (tt1 154 rfl rfl) ⟨Nat.le_of_ble_eq_true rfl, Nat.le_of_ble_eq_true rfl⟩ hK hP hl.1 (Nat.le_of_ble_eq_true rfl) ⟨Nat.zero_le _, Nat.zero_le _⟩ d_OB_certificate_4 ?_
  refine lv_lstore_n (lv' := [(1, .long (ls_wr σ r (r + u))), (0, .ref (ad 0))]) hx hb d_OB_certificate_7 rfl hl (by decide) rfl (fun ls hl => ?_)
  refine lv_iconst (v := 0) hx hb d_OB_certificate_8 (by decide) ?_
  refine lv_istore_n (lv' := [(3, .int 0), (1, .long (ls_wr σ r (r + u))), (0, .ref (ad 0))]) hx hb d_OB_certificate_9 rfl hl (by decide) rfl (fun ls hl => ?_)
  exact lp (n + 1) 0 (by omega) (by omega) ls (lv_sub hl [0, 1, 2] rfl)
theorem x_OB_certificate {σ : oS} {r : Nat} {u : Nat} (h_r : σ 9 0 0 = nI r) (h_u : σ 10 0 0 = nI u) (hr4 : r ≤ 4) (hu4 : u ≤ 4) {n : Nat} (hn : σ 2 0 0 = nI n) (hn9 : n ≤ 5) (F : CallFix p m c cc nL s args (cw :: tt) own) (hG : Cond.methodLink own index y_OB_certificate ∈ tt) (hR : 2 + 1 ≤ R.frames ∧ 8 + (6 + 11) + 45 ≤ R.locals) (hK : va_K D vwCl (ot cI cL) s) (hP : va_P D vwCl (ow cI cL ad σ) H) (hsz : ls.size = nL) (hW : (rest.map fun v => v.category).sum ≤ 8) (hcs : cells ≤ R.cells ∧ slots ≤ R.slots) (hdg : decode cc pc = .ok (.invokevirtual index, 3)) (kk : W p l e R s m args below meth c H locs cells slots Q (F0 m (pc + 3) ls (.long (ob_fd (ob_C σ r u n) 1000) :: rest))) : W p l e R s m args below meth c H locs cells slots Q (F0 m pc ls (.ref (ad 0) :: rest)) :=
  ok_VR (As := []) F (c_OB_certificate σ h_r h_u hr4 hu4 hn hn9) 0 (tt_V hG i_OB_certificate l_OB_certificate in9_OB k_OB_certificate) rfl ⟨rfl, rfl⟩ (by decide +kernel) hR hK hP (0) 5 rfl rfl ow_0 rfl hsz rfl hW hcs hdg kk
set_option maxHeartbeats 4000000 in
set_option maxRecDepth 100000 in
theorem c_OB_contradiction (σ : oS) {r : Nat} {u : Nat} (h_r : σ 9 0 0 = nI r) (h_u : σ 10 0 0 = nI u) (hr4 : r ≤ 4) (hu4 : u ≤ 4) {n : Nat} (hn : σ 2 0 0 = nI n) (hn9 : n ≤ 5) : ok_MR l y_OB_contradiction (Cond.code y_OB_contradiction b_OB_contradiction 2 (some .int) :: tt) { frames := 3, cells := 0, slots := 0, locals := 67 } D vwCl (ot cI cL) (ow cI cL ad σ) [.ref (ad 0)] (some (.int (ob_o (-1) 0 (ob_D σ r u n)))) := by
  refine ok_startR (cc := b_OB_contradiction) (own := ROB) (maxL := 2) (ret := (some .int)) (by decide +kernel) rfl rfl (Nat.le_of_ble_eq_true rfl) ?_
  intro p e s m below meth c F hr hlk hP hK ls hl
  have hl : lv_has ls 2 [(0, .ref (ad 0))] := hl
  have hx := F.1
  have hb := F.2.1
  have lp : ∀ (f k : Nat), k ≤ (r + u) → (r + u) - k < f → ob_o (-1) 0 (ob_D σ r u n) = ob_o (-1) 0 (ob_first (fun k => li_h σ (ls_i r k) (li_s σ (ls_i r k) n) == 0) (r + u - k) k) → ∀ ls : Array Slot, lv_has ls 2 [(1, .int (nI k)), (0, .ref (ad 0))] → W p l e { frames := 3, cells := 0, slots := 0, locals := 67 } s m ([.ref (ad 0)] : List Value).toArray below meth c s.heap [] 0 0 (MQ below (ok_R (some (.int (ob_o (-1) 0 (ob_D σ r u n))))) ([.ref (ad 0)] : List Value).toArray s 0 0 (fun _ => False)) (F0 m 2 ls []) := by
    intro f
    induction f with
    | zero => intro k h1 h2; omega
    | succ f ih =>
      intro k h1 h2 hin ls hl
      refine lv_iload_n hx hb d_OB_contradiction_2 rfl (lv_at hl 0 rfl) ?_
      refine lv_aload_n hx hb d_OB_contradiction_3 rfl (lv_at hl 1 rfl) ?_
      refine gf_OB_lines F hK hP d_OB_contradiction_4 ?_
      refine x_Ls_count F (tt1 202 rfl rfl) ⟨Nat.le_of_ble_eq_true rfl, Nat.le_of_ble_eq_true rfl⟩ hK hP hl.1 (Nat.le_of_ble_eq_true rfl) ⟨Nat.zero_le _, Nat.zero_le _⟩ d_OB_contradiction_7 ?_
      refine lv_icmp_ge (tgt := 39) hx hb d_OB_contradiction_10 (by decide) (fun c1 => ?_) (fun c1 => ?_)
      · have hkn : (r + u) = k := by
          rw [ls_cnt h_r h_u, nI_leI (by omega) (by omega)] at c1; omega
        subst hkn
        have heq := hin
        refine lv_iconst (v := -1) hx hb d_OB_contradiction_39 (by decide) ?_
        exact ok_iretR F hr hlk (by rw [heq, Nat.sub_self]; rfl) d_OB_contradiction_40
      · have hkn : k < (r + u) := by
          rw [ls_cnt h_r h_u, nI_leI (by omega) (by omega)] at c1; omega
        have heq := hin
        refine lv_aload_n hx hb d_OB_contradiction_13 rfl (lv_at hl 1 rfl) ?_
        refine gf_OB_lines F hK hP d_OB_contradiction_14 ?_
        refine lv_iload_n hx hb d_OB_contradiction_17 rfl (lv_at hl 0 rfl) ?_
        refine x_Ls_at (r := r) (u := u) h_r h_u hr4 hu4 (k := k) rfl (by omega) (by omega) F (tt1 203 rfl rfl) ⟨Nat.le_of_ble_eq_true rfl, Nat.le_of_ble_eq_true rfl⟩ hK hP hl.1 (Nat.le_of_ble_eq_true rfl) ⟨Nat.zero_le _, Nat.zero_le _⟩ d_OB_contradiction_18 ?_
        refine lv_aload_n hx hb d_OB_contradiction_21 rfl (lv_at hl 1 rfl) ?_
        refine gf_OB_columns F hK hP d_OB_contradiction_22 ?_
        refine x_Li_canHold (i := (ls_i r k)) (ls_i_lt hr4 hu4 (by omega)) (n := n) hn hn9 F (tt1 204 rfl rfl) ⟨Nat.le_of_ble_eq_true rfl, Nat.le_of_ble_eq_true rfl⟩ hK hP hl.1 (Nat.le_of_ble_eq_true rfl) ⟨Nat.zero_le _, Nat.zero_le _⟩ d_OB_contradiction_25 ?_
        refine lv_if_ne (tgt := 33) hx hb d_OB_contradiction_28 (by decide) (fun c2 => ?_) (fun c2 => ?_)
        · refine lv_iinc (v := nI (k + 1)) (lv' := [(1, .int (nI (k + 1))), (0, .ref (ad 0))]) hx hb d_OB_contradiction_33 hl (k := 0) rfl (nI_inc _) (by decide) rfl (fun ls hl => ?_)
          refine lv_goto (tgt := 2) hx hb d_OB_contradiction_36 (by decide) ?_
          exact ih (k + 1) (by omega) (by omega) (by rw [hin, show r + u - k = (r + u - (k + 1)) + 1 by omega, ob_first, if_neg (by simp [c2])]) ls (lv_sub hl [0, 1] rfl)
        · refine lv_iload_n hx hb d_OB_contradiction_31 rfl (lv_at hl 0 rfl) ?_
          exact ok_iretR F hr hlk (by rw [heq, show r + u - k = (r + u - (k + 1)) + 1 by omega, ob_first, if_pos (by simp [c2]), ob_o, Int32.zero_add]) d_OB_contradiction_32
  refine lv_iconst (v := 0) hx hb d_OB_contradiction_0 (by decide) ?_
  refine lv_istore_n (lv' := [(1, .int 0), (0, .ref (ad 0))]) hx hb d_OB_contradiction_1 rfl hl (by decide) rfl (fun ls hl => ?_)
  exact lp ((r + u) + 1) 0 (by omega) (by omega) (rfl) ls (lv_sub hl [0, 1] rfl)
theorem x_OB_contradiction {σ : oS} {r : Nat} {u : Nat} (h_r : σ 9 0 0 = nI r) (h_u : σ 10 0 0 = nI u) (hr4 : r ≤ 4) (hu4 : u ≤ 4) {n : Nat} (hn : σ 2 0 0 = nI n) (hn9 : n ≤ 5) (F : CallFix p m c cc nL s args (cw :: tt) own) (hG : Cond.methodLink own index y_OB_contradiction ∈ tt) (hR : 3 + 1 ≤ R.frames ∧ 8 + (2 + 11) + 67 ≤ R.locals) (hK : va_K D vwCl (ot cI cL) s) (hP : va_P D vwCl (ow cI cL ad σ) H) (hsz : ls.size = nL) (hW : (rest.map fun v => v.category).sum ≤ 8) (hcs : cells ≤ R.cells ∧ slots ≤ R.slots) (hdg : decode cc pc = .ok (.invokevirtual index, 3)) (kk : W p l e R s m args below meth c H locs cells slots Q (F0 m (pc + 3) ls (.int (ob_o (-1) 0 (ob_D σ r u n)) :: rest))) : W p l e R s m args below meth c H locs cells slots Q (F0 m pc ls (.ref (ad 0) :: rest)) :=
  ok_VR (As := []) F (c_OB_contradiction σ h_r h_u hr4 hu4 hn hn9) 0 (tt_V hG i_OB_contradiction l_OB_contradiction in9_OB k_OB_contradiction) rfl ⟨rfl, rfl⟩ (by decide +kernel) hR hK hP (0) 5 rfl rfl ow_0 rfl hsz rfl hW hcs hdg kk
set_option maxHeartbeats 4000000 in
set_option maxRecDepth 100000 in
theorem c_OB_check (σ : oS) {r : Nat} {u : Nat} (h_r : σ 9 0 0 = nI r) (h_u : σ 10 0 0 = nI u) (hr4 : r ≤ 4) (hu4 : u ≤ 4) {n : Nat} (hn : σ 2 0 0 = nI n) (hn9 : n ≤ 5) {x : Int32} : ok_MR l y_OB_check (Cond.code y_OB_check b_OB_check 3 (some .int) :: tt) { frames := 2, cells := 0, slots := 0, locals := 45 } D vwCl (ot cI cL) (ow cI cL ad σ) [.ref (ad 0), .int x] (some (.int (ob_H σ r u n x))) := by
  refine ok_startR (cc := b_OB_check) (own := ROB) (maxL := 3) (ret := (some .int)) (by decide +kernel) rfl rfl (Nat.le_of_ble_eq_true rfl) ?_
  intro p e s m below meth c F hr hlk hP hK ls hl
  have hl : lv_has ls 3 [(0, .ref (ad 0)), (1, .int x)] := hl
  have hx := F.1
  have hb := F.2.1
  have lq : ∀ (f k : Nat), k ≤ (r + u) → (r + u) - k < f → ob_H σ r u n x = ob_o 0 101 (ob_first (fun k => li_h σ (ls_i r k) (ob_s σ (ls_i r k) x n) == 0) (r + u - k) k) → ∀ ls : Array Slot, lv_has ls 3 [(2, .int (nI k)), (0, .ref (ad 0)), (1, .int x)] → W p l e { frames := 2, cells := 0, slots := 0, locals := 45 } s m ([.ref (ad 0), .int x] : List Value).toArray below meth c s.heap [] 0 0 (MQ below (ok_R (some (.int (ob_H σ r u n x)))) ([.ref (ad 0), .int x] : List Value).toArray s 0 0 (fun _ => False)) (F0 m 41 ls []) := by
    intro f
    induction f with
    | zero => intro k h1 h2; omega
    | succ f ih =>
      intro k h1 h2 hin ls hl
      refine lv_iload_n hx hb d_OB_check_41 rfl (lv_at hl 0 rfl) ?_
      refine lv_aload_n hx hb d_OB_check_42 rfl (lv_at hl 1 rfl) ?_
      refine gf_OB_lines F hK hP d_OB_check_43 ?_
      refine x_Ls_count F (tt1 202 rfl rfl) ⟨Nat.le_of_ble_eq_true rfl, Nat.le_of_ble_eq_true rfl⟩ hK hP hl.1 (Nat.le_of_ble_eq_true rfl) ⟨Nat.zero_le _, Nat.zero_le _⟩ d_OB_check_46 ?_
      refine lv_icmp_ge (tgt := 90) hx hb d_OB_check_49 (by decide) (fun c1 => ?_) (fun c1 => ?_)
      · have hkn : (r + u) = k := by
          rw [ls_cnt h_r h_u, nI_leI (by omega) (by omega)] at c1; omega
        subst hkn
        have heq := hin
        refine lv_iconst (v := 0) hx hb d_OB_check_90 (by decide) ?_
        exact ok_iretR F hr hlk (by rw [heq, Nat.sub_self]; rfl) d_OB_check_91
      · have hkn : k < (r + u) := by
          rw [ls_cnt h_r h_u, nI_leI (by omega) (by omega)] at c1; omega
        have heq := hin
        refine lv_aload_n hx hb d_OB_check_52 rfl (lv_at hl 1 rfl) ?_
        refine gf_OB_lines F hK hP d_OB_check_53 ?_
        refine lv_iload_n hx hb d_OB_check_56 rfl (lv_at hl 0 rfl) ?_
        refine x_Ls_at (r := r) (u := u) h_r h_u hr4 hu4 (k := k) rfl (by omega) (by omega) F (tt1 203 rfl rfl) ⟨Nat.le_of_ble_eq_true rfl, Nat.le_of_ble_eq_true rfl⟩ hK hP hl.1 (Nat.le_of_ble_eq_true rfl) ⟨Nat.zero_le _, Nat.zero_le _⟩ d_OB_check_57 ?_
        refine lv_aload_n hx hb d_OB_check_60 rfl (lv_at hl 1 rfl) ?_
        refine lv_iload_n hx hb d_OB_check_61 rfl (lv_at hl 2 rfl) ?_
        refine lv_aload_n hx hb d_OB_check_62 rfl (lv_at hl 1 rfl) ?_
        refine gf_OB_lines F hK hP d_OB_check_63 ?_
        refine lv_iload_n hx hb d_OB_check_66 rfl (lv_at hl 0 rfl) ?_
        refine x_Ls_at (r := r) (u := u) h_r h_u hr4 hu4 (k := k) rfl (by omega) (by omega) F (tt1 203 rfl rfl) ⟨Nat.le_of_ble_eq_true rfl, Nat.le_of_ble_eq_true rfl⟩ hK hP hl.1 (Nat.le_of_ble_eq_true rfl) ⟨Nat.zero_le _, Nat.zero_le _⟩ d_OB_check_67 ?_
        refine x_OB_packedSum (n := n) hn hn9 (i := (ls_i r k)) (ls_i_lt hr4 hu4 (by omega)) F (tt1 231 rfl rfl) ⟨Nat.le_of_ble_eq_true rfl, Nat.le_of_ble_eq_true rfl⟩ hK hP hl.1 (Nat.le_of_ble_eq_true rfl) ⟨Nat.zero_le _, Nat.zero_le _⟩ d_OB_check_70 ?_
        refine x_Li_holds (i := (ls_i r k)) (ls_i_lt hr4 hu4 (by omega)) F (tt1 236 rfl rfl) ⟨Nat.le_of_ble_eq_true rfl, Nat.le_of_ble_eq_true rfl⟩ hK hP hl.1 (Nat.le_of_ble_eq_true rfl) ⟨Nat.zero_le _, Nat.zero_le _⟩ d_OB_check_73 ?_
        refine lv_if_ne (tgt := 84) hx hb d_OB_check_76 (by decide) (fun c2 => ?_) (fun c2 => ?_)
        · refine lv_iinc (v := nI (k + 1)) (lv' := [(2, .int (nI (k + 1))), (0, .ref (ad 0)), (1, .int x)]) hx hb d_OB_check_84 hl (k := 0) rfl (nI_inc _) (by decide) rfl (fun ls hl => ?_)
          refine lv_goto (tgt := 41) hx hb d_OB_check_87 (by decide) ?_
          exact ih (k + 1) (by omega) (by omega) (by rw [hin, show r + u - k = (r + u - (k + 1)) + 1 by omega, ob_first, if_neg (by simp [c2])]) ls (lv_sub hl [0, 1, 2] rfl)
        · refine lv_bipush (v := 101) hx hb d_OB_check_79 (by decide) ?_
          refine lv_iload_n hx hb d_OB_check_81 rfl (lv_at hl 0 rfl) ?_
          refine lv_iadd hx hb d_OB_check_82 ?_
          exact ok_iretR F hr hlk (by rw [heq, show r + u - k = (r + u - (k + 1)) + 1 by omega, ob_first, if_pos (by simp [c2]), ob_o]) d_OB_check_83
  have lp : ∀ (f k : Nat), k ≤ n → n - k < f → ob_first (fun k => decide (¬ ob_u x (nI k) ≤ σ 1 0 k)) n 0 = ob_first (fun k => decide (¬ ob_u x (nI k) ≤ σ 1 0 k)) (n - k) k → ∀ ls : Array Slot, lv_has ls 3 [(2, .int (nI k)), (0, .ref (ad 0)), (1, .int x)] → W p l e { frames := 2, cells := 0, slots := 0, locals := 45 } s m ([.ref (ad 0), .int x] : List Value).toArray below meth c s.heap [] 0 0 (MQ below (ok_R (some (.int (ob_H σ r u n x)))) ([.ref (ad 0), .int x] : List Value).toArray s 0 0 (fun _ => False)) (F0 m 2 ls []) := by
    intro f
    induction f with
    | zero => intro k h1 h2; omega
    | succ f ih =>
      intro k h1 h2 hin ls hl
      refine lv_iload_n hx hb d_OB_check_2 rfl (lv_at hl 0 rfl) ?_
      refine lv_aload_n hx hb d_OB_check_3 rfl (lv_at hl 1 rfl) ?_
      refine gf_OB_columns F hK hP d_OB_check_4 ?_
      refine x_Co_count F (tt1 174 rfl rfl) ⟨Nat.le_of_ble_eq_true rfl, Nat.le_of_ble_eq_true rfl⟩ hK hP hl.1 (Nat.le_of_ble_eq_true rfl) ⟨Nat.zero_le _, Nat.zero_le _⟩ d_OB_check_7 ?_
      refine lv_icmp_ge (tgt := 39) hx hb d_OB_check_10 (by decide) (fun c3 => ?_) (fun c3 => ?_)
      · have hkn : n = k := by
          rw [hn, nI_leI (by omega) (by omega)] at c3; omega
        subst hkn
        have heq := hin
        refine lv_iconst (v := 0) hx hb d_OB_check_39 (by decide) ?_
        refine lv_istore_n (lv' := [(2, .int 0), (0, .ref (ad 0)), (1, .int x)]) hx hb d_OB_check_40 rfl hl (by decide) rfl (fun ls hl => ?_)
        exact lq (r + u + 1) 0 (by omega) (by omega) (by rw [ob_H, ob_H1, heq, Nat.sub_self]; rfl) ls (lv_sub hl [0, 1, 2] rfl)
      · have hkn : k < n := by
          rw [hn, nI_leI (by omega) (by omega)] at c3; omega
        have heq := hin
        refine lv_iload_n hx hb d_OB_check_13 rfl (lv_at hl 2 rfl) ?_
        refine lv_iload_n hx hb d_OB_check_14 rfl (lv_at hl 0 rfl) ?_
        refine x_OB_packedNumber F (tt1 228 rfl rfl) ⟨Nat.le_of_ble_eq_true rfl, Nat.le_of_ble_eq_true rfl⟩ hK hP hl.1 (Nat.le_of_ble_eq_true rfl) ⟨Nat.zero_le _, Nat.zero_le _⟩ d_OB_check_15 ?_
        refine lv_aload_n hx hb d_OB_check_18 rfl (lv_at hl 1 rfl) ?_
        refine gf_OB_columns F hK hP d_OB_check_19 ?_
        refine lv_iload_n hx hb d_OB_check_22 rfl (lv_at hl 0 rfl) ?_
        refine x_Co_top (j := k) rfl (by omega) F (tt1 191 rfl rfl) ⟨Nat.le_of_ble_eq_true rfl, Nat.le_of_ble_eq_true rfl⟩ hK hP hl.1 (Nat.le_of_ble_eq_true rfl) ⟨Nat.zero_le _, Nat.zero_le _⟩ d_OB_check_23 ?_
        refine lv_icmp_le (tgt := 33) hx hb d_OB_check_26 (by decide) (fun c4 => ?_) (fun c4 => ?_)
        · refine lv_iinc (v := nI (k + 1)) (lv' := [(2, .int (nI (k + 1))), (0, .ref (ad 0)), (1, .int x)]) hx hb d_OB_check_33 hl (k := 0) rfl (nI_inc _) (by decide) rfl (fun ls hl => ?_)
          refine lv_goto (tgt := 2) hx hb d_OB_check_36 (by decide) ?_
          exact ih (k + 1) (by omega) (by omega) (by rw [hin, show n - k = (n - (k + 1)) + 1 by omega, ob_first, if_neg (by simpa using c4)]) ls (lv_sub hl [0, 1, 2] rfl)
        · refine lv_iconst (v := 1) hx hb d_OB_check_29 (by decide) ?_
          refine lv_iload_n hx hb d_OB_check_30 rfl (lv_at hl 0 rfl) ?_
          refine lv_iadd hx hb d_OB_check_31 ?_
          exact ok_iretR F hr hlk (by rw [ob_H, ob_H1, heq, show n - k = (n - (k + 1)) + 1 by omega, ob_first, if_pos (by simpa using c4)]) d_OB_check_32
  refine lv_iconst (v := 0) hx hb d_OB_check_0 (by decide) ?_
  refine lv_istore_n (lv' := [(2, .int 0), (0, .ref (ad 0)), (1, .int x)]) hx hb d_OB_check_1 rfl hl (by decide) rfl (fun ls hl => ?_)
  exact lp (n + 1) 0 (by omega) (by omega) (rfl) ls (lv_sub hl [0, 1, 2] rfl)
theorem x_OB_check {σ : oS} {r : Nat} {u : Nat} (h_r : σ 9 0 0 = nI r) (h_u : σ 10 0 0 = nI u) (hr4 : r ≤ 4) (hu4 : u ≤ 4) {n : Nat} (hn : σ 2 0 0 = nI n) (hn9 : n ≤ 5) {x : Int32} (F : CallFix p m c cc nL s args (cw :: tt) own) (hG : Cond.methodLink own index y_OB_check ∈ tt) (hR : 2 + 1 ≤ R.frames ∧ 8 + (3 + 11) + 45 ≤ R.locals) (hK : va_K D vwCl (ot cI cL) s) (hP : va_P D vwCl (ow cI cL ad σ) H) (hsz : ls.size = nL) (hW : (rest.map fun v => v.category).sum ≤ 8) (hcs : cells ≤ R.cells ∧ slots ≤ R.slots) (hdg : decode cc pc = .ok (.invokevirtual index, 3)) (kk : W p l e R s m args below meth c H locs cells slots Q (F0 m (pc + 3) ls (.int (ob_H σ r u n x) :: rest))) : W p l e R s m args below meth c H locs cells slots Q (F0 m pc ls (.int x :: .ref (ad 0) :: rest)) :=
  ok_VR (As := [.int x]) F (c_OB_check σ h_r h_u hr4 hu4 hn hn9) 1 (tt_V hG i_OB_check l_OB_check in9_OB k_OB_check) rfl ⟨rfl, rfl⟩ (by decide +kernel) hR hK hP (0) 5 rfl rfl ow_0 rfl hsz rfl hW hcs hdg kk
end
end
section
section
variable {l : Launch} {D : va_G} {cI cL : ClassId} {ad : Nat → Nat}
variable {p : Program} {e : Env} {R : Room} {s : State} {m : MethodId} {args : Array Value} {below : List Frame} {meth : Method} {c : Code} {H : Heap} {locs : List Loc} {cells slots : Nat} {Q : State → Prop} {cc : ByteArray} {pc nL index : Nat} {ls : Array Slot} {rest : List Value} {A : Nat → Prop} {H0 : Heap} {cw : Cond} {own : String}
set_option maxHeartbeats 4000000 in
set_option maxRecDepth 100000 in
theorem c_OB_column (σ : oS) {r : Nat} {u : Nat} (h_r : σ 9 0 0 = nI r) (h_u : σ 10 0 0 = nI u) (hr4 : r ≤ 4) (hu4 : u ≤ 4) {n : Nat} (hn : σ 2 0 0 = nI n) (hn5 : n < 5) {x : Int32} {y : Int32} (h1 : ¬ x < -1000) (h2 : x ≤ 1000) (h3 : ¬ y < 0) (h4 : y ≤ 20) : ok_MM l y_OB_column (Cond.code y_OB_column b_OB_column 4 (some .int) :: tt) { frames := 5, cells := 0, slots := 0, locals := 111 } D vwCl (ot cI cL) (ow cI cL ad σ) (ow cI cL ad (se_b (u3 (u3 (u3 σ 0 0 n x) 1 0 n y) 2 0 0 (nI (n + 1))) (n + 1) r u)) [.ref (ad 0), .int x, .int y] (some (.int (nI n))) := by
  refine ok_startM (cc := b_OB_column) (own := ROB) (maxL := 4) (ret := (some .int)) (by decide +kernel) rfl rfl (Nat.le_of_ble_eq_true rfl) ?_
  intro p e s m below meth c A F hr hlk hA hP hK hD hS ls hl
  have hl : lv_has ls 4 [(0, .ref (ad 0)), (1, .int x), (2, .int y)] := hl
  have hx := F.1
  have hb := F.2.1
  refine lv_iload_n hx hb d_OB_column_0 rfl (lv_at hl 1 rfl) ?_
  refine lv_sipush (v := -1000) hx hb d_OB_column_1 (by decide) ?_
  refine lv_icmp_lt (tgt := 14) hx hb d_OB_column_4 (by decide) (fun c1 => ?_) (fun c1 => ?_)
  · first | exact absurd c1 h1 | exact absurd h2 c1
  · refine lv_iload_n hx hb d_OB_column_7 rfl (lv_at hl 1 rfl) ?_
    refine lv_sipush (v := 1000) hx hb d_OB_column_8 (by decide) ?_
    refine lv_icmp_le (tgt := 24) hx hb d_OB_column_11 (by decide) (fun c2 => ?_) (fun c2 => ?_)
    · refine lv_iload_n hx hb d_OB_column_24 rfl (lv_at hl 2 rfl) ?_
      refine lv_if_lt (tgt := 34) hx hb d_OB_column_25 (by decide) (fun c3 => ?_) (fun c3 => ?_)
      · first | exact absurd c3 h3 | exact absurd h4 c3
      · refine lv_iload_n hx hb d_OB_column_28 rfl (lv_at hl 2 rfl) ?_
        refine lv_bipush (v := 20) hx hb d_OB_column_29 (by decide) ?_
        refine lv_icmp_le (tgt := 44) hx hb d_OB_column_31 (by decide) (fun c4 => ?_) (fun c4 => ?_)
        · refine lv_aload_n hx hb d_OB_column_44 rfl (lv_at hl 0 rfl) ?_
          refine gf_OB_columns F hK hP d_OB_column_45 ?_
          refine x_Co_count F (tt1 174 rfl rfl) ⟨Nat.le_of_ble_eq_true rfl, Nat.le_of_ble_eq_true rfl⟩ hK hP hl.1 (Nat.le_of_ble_eq_true rfl) ⟨Nat.zero_le _, Nat.zero_le _⟩ d_OB_column_48 ?_
          refine lv_iconst (v := 5) hx hb d_OB_column_51 (by decide) ?_
          refine lv_icmp_lt (tgt := 65) hx hb d_OB_column_52 (by decide) (fun c5 => ?_) (fun c5 => ?_)
          · refine lv_aload_n hx hb d_OB_column_65 rfl (lv_at hl 0 rfl) ?_
            refine gf_OB_columns F hK hP d_OB_column_66 ?_
            refine lv_iload_n hx hb d_OB_column_69 rfl (lv_at hl 1 rfl) ?_
            refine lv_iload_n hx hb d_OB_column_70 rfl (lv_at hl 2 rfl) ?_
            refine x_Co_add (n := n) hn hn5 F (tt2 92 rfl rfl) ⟨Nat.le_of_ble_eq_true rfl, Nat.le_of_ble_eq_true rfl⟩ hK hP hD hS hA hl.1 (Nat.le_of_ble_eq_true rfl) ⟨Nat.zero_le _, Nat.zero_le _⟩ d_OB_column_71 (fun H locs hP hD hS => ?_)
            refine lv_istore_n (lv' := [(3, .int (nI n)), (0, .ref (ad 0)), (1, .int x), (2, .int y)]) hx hb d_OB_column_74 rfl hl (by decide) rfl (fun ls hl => ?_)
            refine lv_aload_n hx hb d_OB_column_75 rfl (lv_at hl 1 rfl) ?_
            refine gf_OB_search F hK hP d_OB_column_76 ?_
            refine x_Se_begin (r := r) (u := u) (by simp [u3_at, nI_1, h_r, h_u, hn]) (by simp [u3_at, nI_1, h_r, h_u, hn]) (by omega) (by omega) (n := (n + 1)) (by simp [u3_at, nI_1, h_r, h_u, hn]) (by omega) F (tt2 96 rfl rfl) ⟨Nat.le_of_ble_eq_true rfl, Nat.le_of_ble_eq_true rfl⟩ hK hP hD hS hA hl.1 (Nat.le_of_ble_eq_true rfl) ⟨Nat.zero_le _, Nat.zero_le _⟩ d_OB_column_79 (fun H locs hP hD hS => ?_)
            refine lv_iload_n hx hb d_OB_column_82 rfl (lv_at hl 0 rfl) ?_
            exact ok_iretM F hr hlk hP hD hS (rfl) d_OB_column_83
          · exact absurd (by rw [hn, show (5 : Int32) = nI 5 from rfl]; exact nI_lt (by omega) (by omega)) c5
        · first | exact absurd c4 h3 | exact absurd h4 c4
    · first | exact absurd c2 h1 | exact absurd h2 c2
theorem x_OB_column {σ : oS} {r : Nat} {u : Nat} (h_r : σ 9 0 0 = nI r) (h_u : σ 10 0 0 = nI u) (hr4 : r ≤ 4) (hu4 : u ≤ 4) {n : Nat} (hn : σ 2 0 0 = nI n) (hn5 : n < 5) {x : Int32} {y : Int32} (h1 : ¬ x < -1000) (h2 : x ≤ 1000) (h3 : ¬ y < 0) (h4 : y ≤ 20) (F : CallFix p m c cc nL s args (cw :: tt) own) (hG : Cond.methodLink own index y_OB_column ∈ tt) (hR : 5 + 1 ≤ R.frames ∧ 8 + (4 + 11) + 111 ≤ R.locals) (hK : va_K D vwCl (ot cI cL) s) (hP : va_P D vwCl (ow cI cL ad σ) H) (hD : va_D A (ow cI cL ad σ)) (hS : va_S A H0 H locs) (hA : ∀ q, H0.size ≤ q → A q) (hsz : ls.size = nL) (hW : (rest.map fun v => v.category).sum ≤ 8) (hcs : cells ≤ R.cells ∧ slots ≤ R.slots) (hdg : decode cc pc = .ok (.invokevirtual index, 3)) (kk : ∀ (H1 : Heap) (locs1 : List Loc), va_P D vwCl (ow cI cL ad (se_b (u3 (u3 (u3 σ 0 0 n x) 1 0 n y) 2 0 0 (nI (n + 1))) (n + 1) r u)) H1 → va_D A (ow cI cL ad (se_b (u3 (u3 (u3 σ 0 0 n x) 1 0 n y) 2 0 0 (nI (n + 1))) (n + 1) r u)) → va_S A H0 H1 locs1 → W p l e R s m args below meth c H1 locs1 cells slots Q (F0 m (pc + 3) ls (.int (nI n) :: rest))) : W p l e R s m args below meth c H locs cells slots Q (F0 m pc ls (.int y :: .int x :: .ref (ad 0) :: rest)) :=
  ok_VM (As := [.int x, .int y]) F (c_OB_column σ h_r h_u hr4 hu4 hn hn5 h1 h2 h3 h4) 2 (tt_V hG i_OB_column l_OB_column in9_OB k_OB_column) rfl ⟨rfl, rfl⟩ (by decide +kernel) hR hK hP hD hS hA (0) 5 rfl rfl ow_0 rfl hsz rfl hW hcs hdg kk
set_option maxHeartbeats 4000000 in
set_option maxRecDepth 100000 in
theorem c_OB_row (σ : oS) {r : Nat} {u : Nat} (h_r : σ 9 0 0 = nI r) (h_u : σ 10 0 0 = nI u) (hr4 : r ≤ 4) (hu4 : u ≤ 4) {n : Nat} (hn : σ 2 0 0 = nI n) (hn9 : n ≤ 5) (hr3 : r < 4) {x : Int32} {y : Int32} (h1 : x = 0 ∨ x = 1) (h2 : ob_v y = 0) : ok_MM l y_OB_row (Cond.code y_OB_row b_OB_row 4 (some .int) :: tt) { frames := 5, cells := 0, slots := 0, locals := 111 } D vwCl (ot cI cL) (ow cI cL ad σ) (ow cI cL ad (se_b (ls_z (u3 (u3 (u3 σ 4 r 0 x) 5 r 0 y) 9 0 0 (nI (r + 1))) (r + 1) (r + 1 + u)) n (r + 1) u)) [.ref (ad 0), .int x, .int y] (some (.int (nI r))) := by
  refine ok_startM (cc := b_OB_row) (own := ROB) (maxL := 4) (ret := (some .int)) (by decide +kernel) rfl rfl (Nat.le_of_ble_eq_true rfl) ?_
  intro p e s m below meth c A F hr hlk hA hP hK hD hS ls hl
  have hl : lv_has ls 4 [(0, .ref (ad 0)), (1, .int x), (2, .int y)] := hl
  have hx := F.1
  have hb := F.2.1
  refine lv_iload_n hx hb d_OB_row_0 rfl (lv_at hl 1 rfl) ?_
  refine lv_if_eq (tgt := 19) hx hb d_OB_row_1 (by decide) (fun c1 => ?_) (fun c1 => ?_)
  · refine lv_iload_n hx hb d_OB_row_19 rfl (lv_at hl 2 rfl) ?_
    refine x_OB_isNoRight F (tt2 120 rfl rfl) ⟨Nat.le_of_ble_eq_true rfl, Nat.le_of_ble_eq_true rfl⟩ hK hP hl.1 (Nat.le_of_ble_eq_true rfl) ⟨Nat.zero_le _, Nat.zero_le _⟩ d_OB_row_20 ?_
    refine lv_if_eq (tgt := 36) hx hb d_OB_row_23 (by decide) (fun c2 => ?_) (fun c2 => ?_)
    · refine lv_aload_n hx hb d_OB_row_36 rfl (lv_at hl 0 rfl) ?_
      refine gf_OB_lines F hK hP d_OB_row_37 ?_
      refine x_Ls_rowCount F (tt2 124 rfl rfl) ⟨Nat.le_of_ble_eq_true rfl, Nat.le_of_ble_eq_true rfl⟩ hK hP hl.1 (Nat.le_of_ble_eq_true rfl) ⟨Nat.zero_le _, Nat.zero_le _⟩ d_OB_row_40 ?_
      refine lv_iconst (v := 4) hx hb d_OB_row_43 (by decide) ?_
      refine lv_icmp_lt (tgt := 57) hx hb d_OB_row_44 (by decide) (fun c3 => ?_) (fun c3 => ?_)
      · refine lv_aload_n hx hb d_OB_row_57 rfl (lv_at hl 0 rfl) ?_
        refine gf_OB_lines F hK hP d_OB_row_58 ?_
        refine lv_iload_n hx hb d_OB_row_61 rfl (lv_at hl 1 rfl) ?_
        refine lv_iload_n hx hb d_OB_row_62 rfl (lv_at hl 2 rfl) ?_
        refine x_Ls_addRow (r := r) (u := u) h_r h_u hr4 hu4 hr3 F (tt2 129 rfl rfl) ⟨Nat.le_of_ble_eq_true rfl, Nat.le_of_ble_eq_true rfl⟩ hK hP hD hS hA hl.1 (Nat.le_of_ble_eq_true rfl) ⟨Nat.zero_le _, Nat.zero_le _⟩ d_OB_row_63 (fun H locs hP hD hS => ?_)
        refine lv_istore_n (lv' := [(3, .int (nI r)), (0, .ref (ad 0)), (1, .int x), (2, .int y)]) hx hb d_OB_row_66 rfl hl (by decide) rfl (fun ls hl => ?_)
        refine lv_aload_n hx hb d_OB_row_67 rfl (lv_at hl 1 rfl) ?_
        refine gf_OB_search F hK hP d_OB_row_68 ?_
        refine x_Se_begin (r := (r + 1)) (u := u) (by simp [ls_z_c, u3_at, nI_1, h_r, h_u, hn]) (by simp [ls_z_c, u3_at, nI_1, h_r, h_u, hn]) (by omega) (by omega) (n := n) (by simp [ls_z_c, u3_at, nI_1, h_r, h_u, hn]) (by omega) F (tt2 96 rfl rfl) ⟨Nat.le_of_ble_eq_true rfl, Nat.le_of_ble_eq_true rfl⟩ hK hP hD hS hA hl.1 (Nat.le_of_ble_eq_true rfl) ⟨Nat.zero_le _, Nat.zero_le _⟩ d_OB_row_71 (fun H locs hP hD hS => ?_)
        refine lv_iload_n hx hb d_OB_row_74 rfl (lv_at hl 0 rfl) ?_
        exact ok_iretM F hr hlk hP hD hS (rfl) d_OB_row_75
      · exact absurd (by rw [h_r, show (4 : Int32) = nI 4 from rfl]; exact nI_lt (by omega) (by omega)) c3
    · exact absurd h2 c2
  · refine lv_iload_n hx hb d_OB_row_4 rfl (lv_at hl 1 rfl) ?_
    refine lv_iconst (v := 1) hx hb d_OB_row_5 (by decide) ?_
    refine lv_icmp_eq (tgt := 19) hx hb d_OB_row_6 (by decide) (fun c4 => ?_) (fun c4 => ?_)
    · refine lv_iload_n hx hb d_OB_row_19 rfl (lv_at hl 2 rfl) ?_
      refine x_OB_isNoRight F (tt2 120 rfl rfl) ⟨Nat.le_of_ble_eq_true rfl, Nat.le_of_ble_eq_true rfl⟩ hK hP hl.1 (Nat.le_of_ble_eq_true rfl) ⟨Nat.zero_le _, Nat.zero_le _⟩ d_OB_row_20 ?_
      refine lv_if_eq (tgt := 36) hx hb d_OB_row_23 (by decide) (fun c5 => ?_) (fun c5 => ?_)
      · refine lv_aload_n hx hb d_OB_row_36 rfl (lv_at hl 0 rfl) ?_
        refine gf_OB_lines F hK hP d_OB_row_37 ?_
        refine x_Ls_rowCount F (tt2 124 rfl rfl) ⟨Nat.le_of_ble_eq_true rfl, Nat.le_of_ble_eq_true rfl⟩ hK hP hl.1 (Nat.le_of_ble_eq_true rfl) ⟨Nat.zero_le _, Nat.zero_le _⟩ d_OB_row_40 ?_
        refine lv_iconst (v := 4) hx hb d_OB_row_43 (by decide) ?_
        refine lv_icmp_lt (tgt := 57) hx hb d_OB_row_44 (by decide) (fun c6 => ?_) (fun c6 => ?_)
        · refine lv_aload_n hx hb d_OB_row_57 rfl (lv_at hl 0 rfl) ?_
          refine gf_OB_lines F hK hP d_OB_row_58 ?_
          refine lv_iload_n hx hb d_OB_row_61 rfl (lv_at hl 1 rfl) ?_
          refine lv_iload_n hx hb d_OB_row_62 rfl (lv_at hl 2 rfl) ?_
          refine x_Ls_addRow (r := r) (u := u) h_r h_u hr4 hu4 hr3 F (tt2 129 rfl rfl) ⟨Nat.le_of_ble_eq_true rfl, Nat.le_of_ble_eq_true rfl⟩ hK hP hD hS hA hl.1 (Nat.le_of_ble_eq_true rfl) ⟨Nat.zero_le _, Nat.zero_le _⟩ d_OB_row_63 (fun H locs hP hD hS => ?_)
          refine lv_istore_n (lv' := [(3, .int (nI r)), (0, .ref (ad 0)), (1, .int x), (2, .int y)]) hx hb d_OB_row_66 rfl hl (by decide) rfl (fun ls hl => ?_)
          refine lv_aload_n hx hb d_OB_row_67 rfl (lv_at hl 1 rfl) ?_
          refine gf_OB_search F hK hP d_OB_row_68 ?_
          refine x_Se_begin (r := (r + 1)) (u := u) (by simp [ls_z_c, u3_at, nI_1, h_r, h_u, hn]) (by simp [ls_z_c, u3_at, nI_1, h_r, h_u, hn]) (by omega) (by omega) (n := n) (by simp [ls_z_c, u3_at, nI_1, h_r, h_u, hn]) (by omega) F (tt2 96 rfl rfl) ⟨Nat.le_of_ble_eq_true rfl, Nat.le_of_ble_eq_true rfl⟩ hK hP hD hS hA hl.1 (Nat.le_of_ble_eq_true rfl) ⟨Nat.zero_le _, Nat.zero_le _⟩ d_OB_row_71 (fun H locs hP hD hS => ?_)
          refine lv_iload_n hx hb d_OB_row_74 rfl (lv_at hl 0 rfl) ?_
          exact ok_iretM F hr hlk hP hD hS (rfl) d_OB_row_75
        · exact absurd (by rw [h_r, show (4 : Int32) = nI 4 from rfl]; exact nI_lt (by omega) (by omega)) c6
      · exact absurd h2 c5
    · exact absurd h1 (fun q => q.elim c1 c4)
theorem x_OB_row {σ : oS} {r : Nat} {u : Nat} (h_r : σ 9 0 0 = nI r) (h_u : σ 10 0 0 = nI u) (hr4 : r ≤ 4) (hu4 : u ≤ 4) {n : Nat} (hn : σ 2 0 0 = nI n) (hn9 : n ≤ 5) (hr3 : r < 4) {x : Int32} {y : Int32} (h1 : x = 0 ∨ x = 1) (h2 : ob_v y = 0) (F : CallFix p m c cc nL s args (cw :: tt) own) (hG : Cond.methodLink own index y_OB_row ∈ tt) (hR : 5 + 1 ≤ R.frames ∧ 8 + (4 + 11) + 111 ≤ R.locals) (hK : va_K D vwCl (ot cI cL) s) (hP : va_P D vwCl (ow cI cL ad σ) H) (hD : va_D A (ow cI cL ad σ)) (hS : va_S A H0 H locs) (hA : ∀ q, H0.size ≤ q → A q) (hsz : ls.size = nL) (hW : (rest.map fun v => v.category).sum ≤ 8) (hcs : cells ≤ R.cells ∧ slots ≤ R.slots) (hdg : decode cc pc = .ok (.invokevirtual index, 3)) (kk : ∀ (H1 : Heap) (locs1 : List Loc), va_P D vwCl (ow cI cL ad (se_b (ls_z (u3 (u3 (u3 σ 4 r 0 x) 5 r 0 y) 9 0 0 (nI (r + 1))) (r + 1) (r + 1 + u)) n (r + 1) u)) H1 → va_D A (ow cI cL ad (se_b (ls_z (u3 (u3 (u3 σ 4 r 0 x) 5 r 0 y) 9 0 0 (nI (r + 1))) (r + 1) (r + 1 + u)) n (r + 1) u)) → va_S A H0 H1 locs1 → W p l e R s m args below meth c H1 locs1 cells slots Q (F0 m (pc + 3) ls (.int (nI r) :: rest))) : W p l e R s m args below meth c H locs cells slots Q (F0 m pc ls (.int y :: .int x :: .ref (ad 0) :: rest)) :=
  ok_VM (As := [.int x, .int y]) F (c_OB_row σ h_r h_u hr4 hu4 hn hn9 hr3 h1 h2) 2 (tt_V hG i_OB_row l_OB_row in9_OB k_OB_row) rfl ⟨rfl, rfl⟩ (by decide +kernel) hR hK hP hD hS hA (0) 5 rfl rfl ow_0 rfl hsz rfl hW hcs hdg kk
set_option maxHeartbeats 4000000 in
set_option maxRecDepth 100000 in
theorem c_OB_factor (σ : oS) {r : Nat} {u : Nat} (h_r : σ 9 0 0 = nI r) (h_u : σ 10 0 0 = nI u) (hr4 : r ≤ 4) (hu4 : u ≤ 4) {n : Nat} (hn : σ 2 0 0 = nI n) (hn9 : n ≤ 5) {x : Int32} {k : Nat} (hk : x = nI k) (hk9 : k < 4) {y : Int32} {j : Nat} (hj : y = nI j) (hj9 : j < 5) {v : Int32} (hkr : k < r) (h1 : ob_r σ x = 0) (h2 : ob_c σ y = 0) (h3 : ¬ v < -10) (h4 : v ≤ 10) : ok_MM l y_OB_factor (Cond.code y_OB_factor b_OB_factor 4 none :: tt) { frames := 5, cells := 0, slots := 0, locals := 111 } D vwCl (ot cI cL) (ow cI cL ad σ) (ow cI cL ad (se_b (u3 σ 3 (ls_i r k) j v) n r u)) [.ref (ad 0), .int x, .int y, .int v] none := by
  refine ok_startM (cc := b_OB_factor) (own := ROB) (maxL := 4) (ret := none) (by decide +kernel) rfl rfl (Nat.le_of_ble_eq_true rfl) ?_
  intro p e s m below meth c A F hr hlk hA hP hK hD hS ls hl
  have hl : lv_has ls 4 [(0, .ref (ad 0)), (1, .int x), (2, .int y), (3, .int v)] := hl
  have hx := F.1
  have hb := F.2.1
  refine lv_aload_n hx hb d_OB_factor_0 rfl (lv_at hl 0 rfl) ?_
  refine lv_iload_n hx hb d_OB_factor_1 rfl (lv_at hl 1 rfl) ?_
  refine x_OB_isNoRow F (tt2 157 rfl rfl) ⟨Nat.le_of_ble_eq_true rfl, Nat.le_of_ble_eq_true rfl⟩ hK hP hl.1 (Nat.le_of_ble_eq_true rfl) ⟨Nat.zero_le _, Nat.zero_le _⟩ d_OB_factor_2 ?_
  refine lv_if_eq (tgt := 18) hx hb d_OB_factor_5 (by decide) (fun c1 => ?_) (fun c1 => ?_)
  · refine lv_aload_n hx hb d_OB_factor_18 rfl (lv_at hl 0 rfl) ?_
    refine lv_iload_n hx hb d_OB_factor_19 rfl (lv_at hl 2 rfl) ?_
    refine x_OB_isNoColumn F (tt2 177 rfl rfl) ⟨Nat.le_of_ble_eq_true rfl, Nat.le_of_ble_eq_true rfl⟩ hK hP hl.1 (Nat.le_of_ble_eq_true rfl) ⟨Nat.zero_le _, Nat.zero_le _⟩ d_OB_factor_20 ?_
    refine lv_if_eq (tgt := 36) hx hb d_OB_factor_23 (by decide) (fun c2 => ?_) (fun c2 => ?_)
    · refine lv_iload_n hx hb d_OB_factor_36 rfl (lv_at hl 3 rfl) ?_
      refine lv_bipush (v := -10) hx hb d_OB_factor_37 (by decide) ?_
      refine lv_icmp_lt (tgt := 48) hx hb d_OB_factor_39 (by decide) (fun c3 => ?_) (fun c3 => ?_)
      · first | exact absurd c3 h3 | exact absurd h4 c3
      · refine lv_iload_n hx hb d_OB_factor_42 rfl (lv_at hl 3 rfl) ?_
        refine lv_bipush (v := 10) hx hb d_OB_factor_43 (by decide) ?_
        refine lv_icmp_le (tgt := 58) hx hb d_OB_factor_45 (by decide) (fun c4 => ?_) (fun c4 => ?_)
        · refine lv_aload_n hx hb d_OB_factor_58 rfl (lv_at hl 0 rfl) ?_
          refine gf_OB_lines F hK hP d_OB_factor_59 ?_
          refine lv_iload_n hx hb d_OB_factor_62 rfl (lv_at hl 1 rfl) ?_
          refine x_Ls_at (r := r) (u := u) h_r h_u hr4 hu4 (k := k) hk (by omega) (by omega) F (tt1 203 rfl rfl) ⟨Nat.le_of_ble_eq_true rfl, Nat.le_of_ble_eq_true rfl⟩ hK hP hl.1 (Nat.le_of_ble_eq_true rfl) ⟨Nat.zero_le _, Nat.zero_le _⟩ d_OB_factor_63 ?_
          refine lv_iload_n hx hb d_OB_factor_66 rfl (lv_at hl 2 rfl) ?_
          refine lv_iload_n hx hb d_OB_factor_67 rfl (lv_at hl 3 rfl) ?_
          refine x_Li_setFactor (i := (ls_i r k)) (ls_i_lt hr4 hu4 (by omega)) (j := j) hj (by omega) F (tt2 183 rfl rfl) ⟨Nat.le_of_ble_eq_true rfl, Nat.le_of_ble_eq_true rfl⟩ hK hP hD hS hA hl.1 (Nat.le_of_ble_eq_true rfl) ⟨Nat.zero_le _, Nat.zero_le _⟩ d_OB_factor_68 (fun H locs hP hD hS => ?_)
          refine lv_aload_n hx hb d_OB_factor_71 rfl (lv_at hl 0 rfl) ?_
          refine gf_OB_search F hK hP d_OB_factor_72 ?_
          refine x_Se_begin (r := r) (u := u) (by simp [u3_at, nI_1, h_r, h_u, hn]) (by simp [u3_at, nI_1, h_r, h_u, hn]) (by omega) (by omega) (n := n) (by simp [u3_at, nI_1, h_r, h_u, hn]) (by omega) F (tt2 96 rfl rfl) ⟨Nat.le_of_ble_eq_true rfl, Nat.le_of_ble_eq_true rfl⟩ hK hP hD hS hA hl.1 (Nat.le_of_ble_eq_true rfl) ⟨Nat.zero_le _, Nat.zero_le _⟩ d_OB_factor_75 (fun H locs hP hD hS => ?_)
          exact ok_vretM F hr hlk hP hD hS d_OB_factor_78
        · first | exact absurd c4 h3 | exact absurd h4 c4
    · exact absurd h2 c2
  · exact absurd h1 c1
theorem x_OB_factor {σ : oS} {r : Nat} {u : Nat} (h_r : σ 9 0 0 = nI r) (h_u : σ 10 0 0 = nI u) (hr4 : r ≤ 4) (hu4 : u ≤ 4) {n : Nat} (hn : σ 2 0 0 = nI n) (hn9 : n ≤ 5) {x : Int32} {k : Nat} (hk : x = nI k) (hk9 : k < 4) {y : Int32} {j : Nat} (hj : y = nI j) (hj9 : j < 5) {v : Int32} (hkr : k < r) (h1 : ob_r σ x = 0) (h2 : ob_c σ y = 0) (h3 : ¬ v < -10) (h4 : v ≤ 10) (F : CallFix p m c cc nL s args (cw :: tt) own) (hG : Cond.methodLink own index y_OB_factor ∈ tt) (hR : 5 + 1 ≤ R.frames ∧ 8 + (4 + 11) + 111 ≤ R.locals) (hK : va_K D vwCl (ot cI cL) s) (hP : va_P D vwCl (ow cI cL ad σ) H) (hD : va_D A (ow cI cL ad σ)) (hS : va_S A H0 H locs) (hA : ∀ q, H0.size ≤ q → A q) (hsz : ls.size = nL) (hW : (rest.map fun v => v.category).sum ≤ 8) (hcs : cells ≤ R.cells ∧ slots ≤ R.slots) (hdg : decode cc pc = .ok (.invokevirtual index, 3)) (kk : ∀ (H1 : Heap) (locs1 : List Loc), va_P D vwCl (ow cI cL ad (se_b (u3 σ 3 (ls_i r k) j v) n r u)) H1 → va_D A (ow cI cL ad (se_b (u3 σ 3 (ls_i r k) j v) n r u)) → va_S A H0 H1 locs1 → W p l e R s m args below meth c H1 locs1 cells slots Q (F0 m (pc + 3) ls (rest))) : W p l e R s m args below meth c H locs cells slots Q (F0 m pc ls (.int v :: .int y :: .int x :: .ref (ad 0) :: rest)) :=
  ok_VM (As := [.int x, .int y, .int v]) F (c_OB_factor σ h_r h_u hr4 hu4 hn hn9 hk hk9 hj hj9 hkr h1 h2 h3 h4) 3 (tt_V hG i_OB_factor l_OB_factor in9_OB k_OB_factor) rfl ⟨rfl, rfl⟩ (by decide +kernel) hR hK hP hD hS hA (0) 5 rfl rfl ow_0 rfl hsz rfl hW hcs hdg kk
set_option maxHeartbeats 4000000 in
set_option maxRecDepth 100000 in
theorem c_OB_right (σ : oS) {r : Nat} {u : Nat} (h_r : σ 9 0 0 = nI r) (h_u : σ 10 0 0 = nI u) (hr4 : r ≤ 4) (hu4 : u ≤ 4) {n : Nat} (hn : σ 2 0 0 = nI n) (hn9 : n ≤ 5) {x : Int32} {k : Nat} (hk : x = nI k) (hk9 : k < 4) {y : Int32} (hkr : k < r) (h1 : ob_r σ x = 0) (h2 : ob_v y = 0) : ok_MM l y_OB_right (Cond.code y_OB_right b_OB_right 3 none :: tt) { frames := 5, cells := 0, slots := 0, locals := 111 } D vwCl (ot cI cL) (ow cI cL ad σ) (ow cI cL ad (se_b (u3 σ 5 (ls_i r k) 0 y) n r u)) [.ref (ad 0), .int x, .int y] none := by
  refine ok_startM (cc := b_OB_right) (own := ROB) (maxL := 3) (ret := none) (by decide +kernel) rfl rfl (Nat.le_of_ble_eq_true rfl) ?_
  intro p e s m below meth c A F hr hlk hA hP hK hD hS ls hl
  have hl : lv_has ls 3 [(0, .ref (ad 0)), (1, .int x), (2, .int y)] := hl
  have hx := F.1
  have hb := F.2.1
  refine lv_aload_n hx hb d_OB_right_0 rfl (lv_at hl 0 rfl) ?_
  refine lv_iload_n hx hb d_OB_right_1 rfl (lv_at hl 1 rfl) ?_
  refine x_OB_isNoRow F (tt2 157 rfl rfl) ⟨Nat.le_of_ble_eq_true rfl, Nat.le_of_ble_eq_true rfl⟩ hK hP hl.1 (Nat.le_of_ble_eq_true rfl) ⟨Nat.zero_le _, Nat.zero_le _⟩ d_OB_right_2 ?_
  refine lv_if_eq (tgt := 18) hx hb d_OB_right_5 (by decide) (fun c1 => ?_) (fun c1 => ?_)
  · refine lv_iload_n hx hb d_OB_right_18 rfl (lv_at hl 2 rfl) ?_
    refine x_OB_isNoRight F (tt2 120 rfl rfl) ⟨Nat.le_of_ble_eq_true rfl, Nat.le_of_ble_eq_true rfl⟩ hK hP hl.1 (Nat.le_of_ble_eq_true rfl) ⟨Nat.zero_le _, Nat.zero_le _⟩ d_OB_right_19 ?_
    refine lv_if_eq (tgt := 35) hx hb d_OB_right_22 (by decide) (fun c2 => ?_) (fun c2 => ?_)
    · refine lv_aload_n hx hb d_OB_right_35 rfl (lv_at hl 0 rfl) ?_
      refine gf_OB_lines F hK hP d_OB_right_36 ?_
      refine lv_iload_n hx hb d_OB_right_39 rfl (lv_at hl 1 rfl) ?_
      refine x_Ls_at (r := r) (u := u) h_r h_u hr4 hu4 (k := k) hk (by omega) (by omega) F (tt1 203 rfl rfl) ⟨Nat.le_of_ble_eq_true rfl, Nat.le_of_ble_eq_true rfl⟩ hK hP hl.1 (Nat.le_of_ble_eq_true rfl) ⟨Nat.zero_le _, Nat.zero_le _⟩ d_OB_right_40 ?_
      refine lv_iload_n hx hb d_OB_right_43 rfl (lv_at hl 2 rfl) ?_
      refine x_Li_setRight (i := (ls_i r k)) (ls_i_lt hr4 hu4 (by omega)) F (tt2 194 rfl rfl) ⟨Nat.le_of_ble_eq_true rfl, Nat.le_of_ble_eq_true rfl⟩ hK hP hD hS hA hl.1 (Nat.le_of_ble_eq_true rfl) ⟨Nat.zero_le _, Nat.zero_le _⟩ d_OB_right_44 (fun H locs hP hD hS => ?_)
      refine lv_aload_n hx hb d_OB_right_47 rfl (lv_at hl 0 rfl) ?_
      refine gf_OB_search F hK hP d_OB_right_48 ?_
      refine x_Se_begin (r := r) (u := u) (by simp [u3_at, nI_1, h_r, h_u, hn]) (by simp [u3_at, nI_1, h_r, h_u, hn]) (by omega) (by omega) (n := n) (by simp [u3_at, nI_1, h_r, h_u, hn]) (by omega) F (tt2 96 rfl rfl) ⟨Nat.le_of_ble_eq_true rfl, Nat.le_of_ble_eq_true rfl⟩ hK hP hD hS hA hl.1 (Nat.le_of_ble_eq_true rfl) ⟨Nat.zero_le _, Nat.zero_le _⟩ d_OB_right_51 (fun H locs hP hD hS => ?_)
      exact ok_vretM F hr hlk hP hD hS d_OB_right_54
    · exact absurd h2 c2
  · exact absurd h1 c1
theorem x_OB_right {σ : oS} {r : Nat} {u : Nat} (h_r : σ 9 0 0 = nI r) (h_u : σ 10 0 0 = nI u) (hr4 : r ≤ 4) (hu4 : u ≤ 4) {n : Nat} (hn : σ 2 0 0 = nI n) (hn9 : n ≤ 5) {x : Int32} {k : Nat} (hk : x = nI k) (hk9 : k < 4) {y : Int32} (hkr : k < r) (h1 : ob_r σ x = 0) (h2 : ob_v y = 0) (F : CallFix p m c cc nL s args (cw :: tt) own) (hG : Cond.methodLink own index y_OB_right ∈ tt) (hR : 5 + 1 ≤ R.frames ∧ 8 + (3 + 11) + 111 ≤ R.locals) (hK : va_K D vwCl (ot cI cL) s) (hP : va_P D vwCl (ow cI cL ad σ) H) (hD : va_D A (ow cI cL ad σ)) (hS : va_S A H0 H locs) (hA : ∀ q, H0.size ≤ q → A q) (hsz : ls.size = nL) (hW : (rest.map fun v => v.category).sum ≤ 8) (hcs : cells ≤ R.cells ∧ slots ≤ R.slots) (hdg : decode cc pc = .ok (.invokevirtual index, 3)) (kk : ∀ (H1 : Heap) (locs1 : List Loc), va_P D vwCl (ow cI cL ad (se_b (u3 σ 5 (ls_i r k) 0 y) n r u)) H1 → va_D A (ow cI cL ad (se_b (u3 σ 5 (ls_i r k) 0 y) n r u)) → va_S A H0 H1 locs1 → W p l e R s m args below meth c H1 locs1 cells slots Q (F0 m (pc + 3) ls (rest))) : W p l e R s m args below meth c H locs cells slots Q (F0 m pc ls (.int y :: .int x :: .ref (ad 0) :: rest)) :=
  ok_VM (As := [.int x, .int y]) F (c_OB_right σ h_r h_u hr4 hu4 hn hn9 hk hk9 hkr h1 h2) 2 (tt_V hG i_OB_right l_OB_right in9_OB k_OB_right) rfl ⟨rfl, rfl⟩ (by decide +kernel) hR hK hP hD hS hA (0) 5 rfl rfl ow_0 rfl hsz rfl hW hcs hdg kk
set_option maxHeartbeats 4000000 in
set_option maxRecDepth 100000 in
theorem c_OB_cut (σ : oS) {r : Nat} {u : Nat} (h_r : σ 9 0 0 = nI r) (h_u : σ 10 0 0 = nI u) (hr4 : r ≤ 4) (hu4 : u ≤ 4) {n : Nat} (hn : σ 2 0 0 = nI n) (hn9 : n ≤ 5) (hu3 : u < 4) {x : Int32} {j : Nat} (hj : x = nI j) (hj9 : j < 5) {y : Int32} {t : Nat} (ht : y = nI t) (ht9 : t < 5) (h1 : ob_p σ x y = 0) (h3 : ls_hc σ j t u = false) : ok_MM l y_OB_cut (Cond.code y_OB_cut b_OB_cut 4 (some .int) :: tt) { frames := 5, cells := 0, slots := 0, locals := 111 } D vwCl (ot cI cL) (ow cI cL ad σ) (ow cI cL ad (se_b (ls_z (u3 (u3 (u3 (u3 σ 5 (u + 4) 0 (if σ 1 0 j < σ 1 0 t then σ 1 0 t else σ 1 0 j)) 3 (u + 4) j 1) 3 (u + 4) t 1) 10 0 0 (nI (u + 1))) r (r + (u + 1))) n r (u + 1))) [.ref (ad 0), .int x, .int y] (some (.int (nI (u + 1)))) := by
  refine ok_startM (cc := b_OB_cut) (own := ROB) (maxL := 4) (ret := (some .int)) (by decide +kernel) rfl rfl (Nat.le_of_ble_eq_true rfl) ?_
  intro p e s m below meth c A F hr hlk hA hP hK hD hS ls hl
  have hl : lv_has ls 4 [(0, .ref (ad 0)), (1, .int x), (2, .int y)] := hl
  have hx := F.1
  have hb := F.2.1
  refine lv_aload_n hx hb d_OB_cut_0 rfl (lv_at hl 0 rfl) ?_
  refine lv_iload_n hx hb d_OB_cut_1 rfl (lv_at hl 1 rfl) ?_
  refine lv_iload_n hx hb d_OB_cut_2 rfl (lv_at hl 2 rfl) ?_
  refine x_OB_isNoPair F (tt2 202 rfl rfl) ⟨Nat.le_of_ble_eq_true rfl, Nat.le_of_ble_eq_true rfl⟩ hK hP hl.1 (Nat.le_of_ble_eq_true rfl) ⟨Nat.zero_le _, Nat.zero_le _⟩ d_OB_cut_3 ?_
  refine lv_if_eq (tgt := 19) hx hb d_OB_cut_6 (by decide) (fun c1 => ?_) (fun c1 => ?_)
  · refine lv_aload_n hx hb d_OB_cut_19 rfl (lv_at hl 0 rfl) ?_
    refine gf_OB_lines F hK hP d_OB_cut_20 ?_
    refine x_Ls_cutCount F (tt2 207 rfl rfl) ⟨Nat.le_of_ble_eq_true rfl, Nat.le_of_ble_eq_true rfl⟩ hK hP hl.1 (Nat.le_of_ble_eq_true rfl) ⟨Nat.zero_le _, Nat.zero_le _⟩ d_OB_cut_23 ?_
    refine lv_iconst (v := 4) hx hb d_OB_cut_26 (by decide) ?_
    refine lv_icmp_lt (tgt := 40) hx hb d_OB_cut_27 (by decide) (fun c2 => ?_) (fun c2 => ?_)
    · refine lv_aload_n hx hb d_OB_cut_40 rfl (lv_at hl 0 rfl) ?_
      refine gf_OB_lines F hK hP d_OB_cut_41 ?_
      refine lv_iload_n hx hb d_OB_cut_44 rfl (lv_at hl 1 rfl) ?_
      refine lv_iload_n hx hb d_OB_cut_45 rfl (lv_at hl 2 rfl) ?_
      refine x_Ls_hasCut (r := r) (u := u) h_r h_u hr4 hu4 (j := j) hj (by omega) (t := t) ht (by omega) F (tt2 212 rfl rfl) ⟨Nat.le_of_ble_eq_true rfl, Nat.le_of_ble_eq_true rfl⟩ hK hP hl.1 (Nat.le_of_ble_eq_true rfl) ⟨Nat.zero_le _, Nat.zero_le _⟩ d_OB_cut_46 ?_
      refine lv_if_eq (tgt := 62) hx hb d_OB_cut_49 (by decide) (fun c3 => ?_) (fun c3 => ?_)
      · refine lv_aload_n hx hb d_OB_cut_62 rfl (lv_at hl 0 rfl) ?_
        refine gf_OB_lines F hK hP d_OB_cut_63 ?_
        refine lv_iload_n hx hb d_OB_cut_66 rfl (lv_at hl 1 rfl) ?_
        refine lv_iload_n hx hb d_OB_cut_67 rfl (lv_at hl 2 rfl) ?_
        refine lv_aload_n hx hb d_OB_cut_68 rfl (lv_at hl 0 rfl) ?_
        refine gf_OB_columns F hK hP d_OB_cut_69 ?_
        refine lv_iload_n hx hb d_OB_cut_72 rfl (lv_at hl 1 rfl) ?_
        refine x_Co_top (j := j) hj (by omega) F (tt1 191 rfl rfl) ⟨Nat.le_of_ble_eq_true rfl, Nat.le_of_ble_eq_true rfl⟩ hK hP hl.1 (Nat.le_of_ble_eq_true rfl) ⟨Nat.zero_le _, Nat.zero_le _⟩ d_OB_cut_73 ?_
        refine lv_aload_n hx hb d_OB_cut_76 rfl (lv_at hl 0 rfl) ?_
        refine gf_OB_columns F hK hP d_OB_cut_77 ?_
        refine lv_iload_n hx hb d_OB_cut_80 rfl (lv_at hl 2 rfl) ?_
        refine x_Co_top (j := t) ht (by omega) F (tt1 191 rfl rfl) ⟨Nat.le_of_ble_eq_true rfl, Nat.le_of_ble_eq_true rfl⟩ hK hP hl.1 (Nat.le_of_ble_eq_true rfl) ⟨Nat.zero_le _, Nat.zero_le _⟩ d_OB_cut_81 ?_
        refine ok_mmax F (List.mem_cons_of_mem _ (tt2 217 rfl rfl)) hl.1 (Nat.le_of_ble_eq_true rfl) (Nat.le_of_ble_eq_true rfl) (Nat.zero_le _) (Nat.zero_le _) d_OB_cut_84 ?_
        refine x_Ls_addCut (r := r) (u := u) h_r h_u hr4 hu4 hu3 (j := j) hj (by omega) (t := t) ht (by omega) F (tt2 218 rfl rfl) ⟨Nat.le_of_ble_eq_true rfl, Nat.le_of_ble_eq_true rfl⟩ hK hP hD hS hA hl.1 (Nat.le_of_ble_eq_true rfl) ⟨Nat.zero_le _, Nat.zero_le _⟩ d_OB_cut_87 (fun H locs hP hD hS => ?_)
        refine lv_istore_n (lv' := [(3, .int (nI (u + 1))), (0, .ref (ad 0)), (1, .int x), (2, .int y)]) hx hb d_OB_cut_90 rfl hl (by decide) rfl (fun ls hl => ?_)
        refine lv_aload_n hx hb d_OB_cut_91 rfl (lv_at hl 1 rfl) ?_
        refine gf_OB_search F hK hP d_OB_cut_92 ?_
        refine x_Se_begin (r := r) (u := (u + 1)) (by simp [ls_z_c, u3_at, nI_1, h_r, h_u, hn]) (by simp [ls_z_c, u3_at, nI_1, h_r, h_u, hn]) (by omega) (by omega) (n := n) (by simp [ls_z_c, u3_at, nI_1, h_r, h_u, hn]) (by omega) F (tt2 96 rfl rfl) ⟨Nat.le_of_ble_eq_true rfl, Nat.le_of_ble_eq_true rfl⟩ hK hP hD hS hA hl.1 (Nat.le_of_ble_eq_true rfl) ⟨Nat.zero_le _, Nat.zero_le _⟩ d_OB_cut_95 (fun H locs hP hD hS => ?_)
        refine lv_iload_n hx hb d_OB_cut_98 rfl (lv_at hl 0 rfl) ?_
        exact ok_iretM F hr hlk hP hD hS (rfl) d_OB_cut_99
      · exact absurd (by rw [h3]; rfl) c3
    · exact absurd (by rw [h_u, show (4 : Int32) = nI 4 from rfl]; exact nI_lt (by omega) (by omega)) c2
  · exact absurd h1 c1
theorem x_OB_cut {σ : oS} {r : Nat} {u : Nat} (h_r : σ 9 0 0 = nI r) (h_u : σ 10 0 0 = nI u) (hr4 : r ≤ 4) (hu4 : u ≤ 4) {n : Nat} (hn : σ 2 0 0 = nI n) (hn9 : n ≤ 5) (hu3 : u < 4) {x : Int32} {j : Nat} (hj : x = nI j) (hj9 : j < 5) {y : Int32} {t : Nat} (ht : y = nI t) (ht9 : t < 5) (h1 : ob_p σ x y = 0) (h3 : ls_hc σ j t u = false) (F : CallFix p m c cc nL s args (cw :: tt) own) (hG : Cond.methodLink own index y_OB_cut ∈ tt) (hR : 5 + 1 ≤ R.frames ∧ 8 + (4 + 11) + 111 ≤ R.locals) (hK : va_K D vwCl (ot cI cL) s) (hP : va_P D vwCl (ow cI cL ad σ) H) (hD : va_D A (ow cI cL ad σ)) (hS : va_S A H0 H locs) (hA : ∀ q, H0.size ≤ q → A q) (hsz : ls.size = nL) (hW : (rest.map fun v => v.category).sum ≤ 8) (hcs : cells ≤ R.cells ∧ slots ≤ R.slots) (hdg : decode cc pc = .ok (.invokevirtual index, 3)) (kk : ∀ (H1 : Heap) (locs1 : List Loc), va_P D vwCl (ow cI cL ad (se_b (ls_z (u3 (u3 (u3 (u3 σ 5 (u + 4) 0 (if σ 1 0 j < σ 1 0 t then σ 1 0 t else σ 1 0 j)) 3 (u + 4) j 1) 3 (u + 4) t 1) 10 0 0 (nI (u + 1))) r (r + (u + 1))) n r (u + 1))) H1 → va_D A (ow cI cL ad (se_b (ls_z (u3 (u3 (u3 (u3 σ 5 (u + 4) 0 (if σ 1 0 j < σ 1 0 t then σ 1 0 t else σ 1 0 j)) 3 (u + 4) j 1) 3 (u + 4) t 1) 10 0 0 (nI (u + 1))) r (r + (u + 1))) n r (u + 1))) → va_S A H0 H1 locs1 → W p l e R s m args below meth c H1 locs1 cells slots Q (F0 m (pc + 3) ls (.int (nI (u + 1)) :: rest))) : W p l e R s m args below meth c H locs cells slots Q (F0 m pc ls (.int y :: .int x :: .ref (ad 0) :: rest)) :=
  ok_VM (As := [.int x, .int y]) F (c_OB_cut σ h_r h_u hr4 hu4 hn hn9 hu3 hj hj9 ht ht9 h1 h3) 2 (tt_V hG i_OB_cut l_OB_cut in9_OB k_OB_cut) rfl ⟨rfl, rfl⟩ (by decide +kernel) hR hK hP hD hS hA (0) 5 rfl rfl ow_0 rfl hsz rfl hW hcs hdg kk
set_option maxHeartbeats 4000000 in
set_option maxRecDepth 100000 in
theorem c_OB_run (σ : oS) {r : Nat} {u : Nat} (h_r : σ 9 0 0 = nI r) (h_u : σ 10 0 0 = nI u) (hr4 : r ≤ 4) (hu4 : u ≤ 4) {n : Nat} (hn : σ 2 0 0 = nI n) (hn9 : n ≤ 5) (hfo : σ 17 0 0 = 0 ∨ σ 17 0 0 = 1) {q : Nat} (hq : σ 15 0 0 = nI q - 1) (hqn : n ≠ 0 → q ≤ n) {x : Int32} {f : Nat} (hf : x = nI f) (hf9 : f < 100001) (h1 : ¬ x < 0) (h2 : x ≤ 100000) : ok_MM l y_OB_run (Cond.code y_OB_run b_OB_run 2 (some .int) :: tt) { frames := 5, cells := 0, slots := 0, locals := 111 } D vwCl (ot cI cL) (ow cI cL ad σ) (ow cI cL ad (se_G σ n r u f)) [.ref (ad 0), .int x] (some (.int (se_r (se_G σ n r u f)))) := by
  refine ok_startM (cc := b_OB_run) (own := ROB) (maxL := 2) (ret := (some .int)) (by decide +kernel) rfl rfl (Nat.le_of_ble_eq_true rfl) ?_
  intro p e s m below meth c A F hr hlk hA hP hK hD hS ls hl
  have hl : lv_has ls 2 [(0, .ref (ad 0)), (1, .int x)] := hl
  have hx := F.1
  have hb := F.2.1
  refine lv_iload_n hx hb d_OB_run_0 rfl (lv_at hl 1 rfl) ?_
  refine lv_if_lt (tgt := 10) hx hb d_OB_run_1 (by decide) (fun c1 => ?_) (fun c1 => ?_)
  · first | exact absurd c1 h1 | exact absurd h2 c1
  · refine lv_iload_n hx hb d_OB_run_4 rfl (lv_at hl 1 rfl) ?_
    refine lv_ldc (v := 100000) hx hb F.2.2.2.1 (F.2.2.2.2 (.constant ROB 138 (100000)) (List.mem_cons_of_mem _ (tt2 230 rfl rfl))) d_OB_run_5 ?_
    refine lv_icmp_le (tgt := 20) hx hb d_OB_run_7 (by decide) (fun c2 => ?_) (fun c2 => ?_)
    · refine lv_aload_n hx hb d_OB_run_20 rfl (lv_at hl 0 rfl) ?_
      refine gf_OB_search F hK hP d_OB_run_21 ?_
      refine lv_iload_n hx hb d_OB_run_24 rfl (lv_at hl 1 rfl) ?_
      refine x_Se_goOn (r := r) (u := u) h_r h_u hr4 hu4 (n := n) hn hn9 hfo (q := q) hq hqn (f := f) hf (by omega) F (tt2 232 rfl rfl) ⟨Nat.le_of_ble_eq_true rfl, Nat.le_of_ble_eq_true rfl⟩ hK hP hD hS hA hl.1 (Nat.le_of_ble_eq_true rfl) ⟨Nat.zero_le _, Nat.zero_le _⟩ d_OB_run_25 (fun H locs hP hD hS => ?_)
      exact ok_iretM F hr hlk hP hD hS (rfl) d_OB_run_28
    · first | exact absurd c2 h1 | exact absurd h2 c2
theorem x_OB_run {σ : oS} {r : Nat} {u : Nat} (h_r : σ 9 0 0 = nI r) (h_u : σ 10 0 0 = nI u) (hr4 : r ≤ 4) (hu4 : u ≤ 4) {n : Nat} (hn : σ 2 0 0 = nI n) (hn9 : n ≤ 5) (hfo : σ 17 0 0 = 0 ∨ σ 17 0 0 = 1) {q : Nat} (hq : σ 15 0 0 = nI q - 1) (hqn : n ≠ 0 → q ≤ n) {x : Int32} {f : Nat} (hf : x = nI f) (hf9 : f < 100001) (h1 : ¬ x < 0) (h2 : x ≤ 100000) (F : CallFix p m c cc nL s args (cw :: tt) own) (hG : Cond.methodLink own index y_OB_run ∈ tt) (hR : 5 + 1 ≤ R.frames ∧ 8 + (2 + 11) + 111 ≤ R.locals) (hK : va_K D vwCl (ot cI cL) s) (hP : va_P D vwCl (ow cI cL ad σ) H) (hD : va_D A (ow cI cL ad σ)) (hS : va_S A H0 H locs) (hA : ∀ q, H0.size ≤ q → A q) (hsz : ls.size = nL) (hW : (rest.map fun v => v.category).sum ≤ 8) (hcs : cells ≤ R.cells ∧ slots ≤ R.slots) (hdg : decode cc pc = .ok (.invokevirtual index, 3)) (kk : ∀ (H1 : Heap) (locs1 : List Loc), va_P D vwCl (ow cI cL ad (se_G σ n r u f)) H1 → va_D A (ow cI cL ad (se_G σ n r u f)) → va_S A H0 H1 locs1 → W p l e R s m args below meth c H1 locs1 cells slots Q (F0 m (pc + 3) ls (.int (se_r (se_G σ n r u f)) :: rest))) : W p l e R s m args below meth c H locs cells slots Q (F0 m pc ls (.int x :: .ref (ad 0) :: rest)) :=
  ok_VM (As := [.int x]) F (c_OB_run σ h_r h_u hr4 hu4 hn hn9 hfo hq hqn hf hf9 h1 h2) 1 (tt_V hG i_OB_run l_OB_run in9_OB k_OB_run) rfl ⟨rfl, rfl⟩ (by decide +kernel) hR hK hP hD hS hA (0) 5 rfl rfl ow_0 rfl hsz rfl hW hcs hdg kk
set_option maxHeartbeats 4000000 in
set_option maxRecDepth 100000 in
theorem c_OB_told (σ : oS) (hfo : σ 17 0 0 = 0 ∨ σ 17 0 0 = 1) {x : Int32} (h1 : x = 0 ∨ x = 1) (h2 : x = 1 ∨ ¬ σ 17 0 0 = 0) : ok_MR l y_OB_told (Cond.code y_OB_told b_OB_told 2 (some .int) :: tt) { frames := 1, cells := 0, slots := 0, locals := 20 } D vwCl (ot cI cL) (ow cI cL ad σ) [.ref (ad 0), .int x] (some (.int (if x = 1 then σ 16 0 0 else σ 18 0 0))) := by
  refine ok_startR (cc := b_OB_told) (own := ROB) (maxL := 2) (ret := (some .int)) (by decide +kernel) rfl rfl (Nat.le_of_ble_eq_true rfl) ?_
  intro p e s m below meth c F hr hlk hP hK ls hl
  have hl : lv_has ls 2 [(0, .ref (ad 0)), (1, .int x)] := hl
  have hx := F.1
  have hb := F.2.1
  refine lv_iload_n hx hb d_OB_told_0 rfl (lv_at hl 1 rfl) ?_
  refine lv_if_eq (tgt := 19) hx hb d_OB_told_1 (by decide) (fun c1 => ?_) (fun c1 => ?_)
  · refine lv_iload_n hx hb d_OB_told_19 rfl (lv_at hl 1 rfl) ?_
    refine lv_iconst (v := 1) hx hb d_OB_told_20 (by decide) ?_
    refine lv_icmp_ne (tgt := 32) hx hb d_OB_told_21 (by decide) (fun c2 => ?_) (fun c2 => ?_)
    · refine lv_aload_n hx hb d_OB_told_32 rfl (lv_at hl 0 rfl) ?_
      refine gf_OB_search F hK hP d_OB_told_33 ?_
      refine x_Se_hasFound hfo F (tt3 45 rfl rfl) ⟨Nat.le_of_ble_eq_true rfl, Nat.le_of_ble_eq_true rfl⟩ hK hP hl.1 (Nat.le_of_ble_eq_true rfl) ⟨Nat.zero_le _, Nat.zero_le _⟩ d_OB_told_36 ?_
      refine lv_if_ne (tgt := 52) hx hb d_OB_told_39 (by decide) (fun c3 => ?_) (fun c3 => ?_)
      · refine lv_aload_n hx hb d_OB_told_52 rfl (lv_at hl 0 rfl) ?_
        refine gf_OB_search F hK hP d_OB_told_53 ?_
        refine x_Se_bestWorth F (tt3 65 rfl rfl) ⟨Nat.le_of_ble_eq_true rfl, Nat.le_of_ble_eq_true rfl⟩ hK hP hl.1 (Nat.le_of_ble_eq_true rfl) ⟨Nat.zero_le _, Nat.zero_le _⟩ d_OB_told_56 ?_
        exact ok_iretR F hr hlk (by rw [if_neg c2]) d_OB_told_59
      · exact absurd h2 (fun q => q.elim c2 (fun k => k c3))
    · refine lv_aload_n hx hb d_OB_told_24 rfl (lv_at hl 0 rfl) ?_
      refine gf_OB_search F hK hP d_OB_told_25 ?_
      refine x_Se_stepsGiven F (tt3 41 rfl rfl) ⟨Nat.le_of_ble_eq_true rfl, Nat.le_of_ble_eq_true rfl⟩ hK hP hl.1 (Nat.le_of_ble_eq_true rfl) ⟨Nat.zero_le _, Nat.zero_le _⟩ d_OB_told_28 ?_
      exact ok_iretR F hr hlk (by rw [if_pos c2]) d_OB_told_31
  · refine lv_iload_n hx hb d_OB_told_4 rfl (lv_at hl 1 rfl) ?_
    refine lv_iconst (v := 1) hx hb d_OB_told_5 (by decide) ?_
    refine lv_icmp_eq (tgt := 19) hx hb d_OB_told_6 (by decide) (fun c4 => ?_) (fun c4 => ?_)
    · refine lv_iload_n hx hb d_OB_told_19 rfl (lv_at hl 1 rfl) ?_
      refine lv_iconst (v := 1) hx hb d_OB_told_20 (by decide) ?_
      refine lv_icmp_ne (tgt := 32) hx hb d_OB_told_21 (by decide) (fun c5 => ?_) (fun c5 => ?_)
      · refine lv_aload_n hx hb d_OB_told_32 rfl (lv_at hl 0 rfl) ?_
        refine gf_OB_search F hK hP d_OB_told_33 ?_
        refine x_Se_hasFound hfo F (tt3 45 rfl rfl) ⟨Nat.le_of_ble_eq_true rfl, Nat.le_of_ble_eq_true rfl⟩ hK hP hl.1 (Nat.le_of_ble_eq_true rfl) ⟨Nat.zero_le _, Nat.zero_le _⟩ d_OB_told_36 ?_
        refine lv_if_ne (tgt := 52) hx hb d_OB_told_39 (by decide) (fun c6 => ?_) (fun c6 => ?_)
        · refine lv_aload_n hx hb d_OB_told_52 rfl (lv_at hl 0 rfl) ?_
          refine gf_OB_search F hK hP d_OB_told_53 ?_
          refine x_Se_bestWorth F (tt3 65 rfl rfl) ⟨Nat.le_of_ble_eq_true rfl, Nat.le_of_ble_eq_true rfl⟩ hK hP hl.1 (Nat.le_of_ble_eq_true rfl) ⟨Nat.zero_le _, Nat.zero_le _⟩ d_OB_told_56 ?_
          exact ok_iretR F hr hlk (by rw [if_neg c5]) d_OB_told_59
        · exact absurd h2 (fun q => q.elim c5 (fun k => k c6))
      · refine lv_aload_n hx hb d_OB_told_24 rfl (lv_at hl 0 rfl) ?_
        refine gf_OB_search F hK hP d_OB_told_25 ?_
        refine x_Se_stepsGiven F (tt3 41 rfl rfl) ⟨Nat.le_of_ble_eq_true rfl, Nat.le_of_ble_eq_true rfl⟩ hK hP hl.1 (Nat.le_of_ble_eq_true rfl) ⟨Nat.zero_le _, Nat.zero_le _⟩ d_OB_told_28 ?_
        exact ok_iretR F hr hlk (by rw [if_pos c5]) d_OB_told_31
    · exact absurd h1 (fun q => q.elim c1 c4)
theorem x_OB_told {σ : oS} (hfo : σ 17 0 0 = 0 ∨ σ 17 0 0 = 1) {x : Int32} (h1 : x = 0 ∨ x = 1) (h2 : x = 1 ∨ ¬ σ 17 0 0 = 0) (F : CallFix p m c cc nL s args (cw :: tt) own) (hG : Cond.methodLink own index y_OB_told ∈ tt) (hR : 1 + 1 ≤ R.frames ∧ 8 + (2 + 11) + 20 ≤ R.locals) (hK : va_K D vwCl (ot cI cL) s) (hP : va_P D vwCl (ow cI cL ad σ) H) (hsz : ls.size = nL) (hW : (rest.map fun v => v.category).sum ≤ 8) (hcs : cells ≤ R.cells ∧ slots ≤ R.slots) (hdg : decode cc pc = .ok (.invokevirtual index, 3)) (kk : W p l e R s m args below meth c H locs cells slots Q (F0 m (pc + 3) ls (.int (if x = 1 then σ 16 0 0 else σ 18 0 0) :: rest))) : W p l e R s m args below meth c H locs cells slots Q (F0 m pc ls (.int x :: .ref (ad 0) :: rest)) :=
  ok_VR (As := [.int x]) F (c_OB_told σ hfo h1 h2) 1 (tt_V hG i_OB_told l_OB_told in9_OB k_OB_told) rfl ⟨rfl, rfl⟩ (by decide +kernel) hR hK hP (0) 5 rfl rfl ow_0 rfl hsz rfl hW hcs hdg kk
set_option maxHeartbeats 4000000 in
set_option maxRecDepth 100000 in
theorem c_OB_value (σ : oS) (hfo : σ 17 0 0 = 0 ∨ σ 17 0 0 = 1) {x : Int32} {j : Nat} (hj : x = nI j) (hj9 : j < 5) (h1 : ob_c σ x = 0) (h2 : ¬ σ 17 0 0 = 0) : ok_MR l y_OB_value (Cond.code y_OB_value b_OB_value 2 (some .int) :: tt) { frames := 2, cells := 0, slots := 0, locals := 41 } D vwCl (ot cI cL) (ow cI cL ad σ) [.ref (ad 0), .int x] (some (.int (σ 12 0 j))) := by
  refine ok_startR (cc := b_OB_value) (own := ROB) (maxL := 2) (ret := (some .int)) (by decide +kernel) rfl rfl (Nat.le_of_ble_eq_true rfl) ?_
  intro p e s m below meth c F hr hlk hP hK ls hl
  have hl : lv_has ls 2 [(0, .ref (ad 0)), (1, .int x)] := hl
  have hx := F.1
  have hb := F.2.1
  refine lv_aload_n hx hb d_OB_value_0 rfl (lv_at hl 0 rfl) ?_
  refine lv_iload_n hx hb d_OB_value_1 rfl (lv_at hl 1 rfl) ?_
  refine x_OB_isNoColumn F (tt2 177 rfl rfl) ⟨Nat.le_of_ble_eq_true rfl, Nat.le_of_ble_eq_true rfl⟩ hK hP hl.1 (Nat.le_of_ble_eq_true rfl) ⟨Nat.zero_le _, Nat.zero_le _⟩ d_OB_value_2 ?_
  refine lv_if_eq (tgt := 18) hx hb d_OB_value_5 (by decide) (fun c1 => ?_) (fun c1 => ?_)
  · refine lv_aload_n hx hb d_OB_value_18 rfl (lv_at hl 0 rfl) ?_
    refine gf_OB_search F hK hP d_OB_value_19 ?_
    refine x_Se_hasFound hfo F (tt3 45 rfl rfl) ⟨Nat.le_of_ble_eq_true rfl, Nat.le_of_ble_eq_true rfl⟩ hK hP hl.1 (Nat.le_of_ble_eq_true rfl) ⟨Nat.zero_le _, Nat.zero_le _⟩ d_OB_value_22 ?_
    refine lv_if_ne (tgt := 38) hx hb d_OB_value_25 (by decide) (fun c2 => ?_) (fun c2 => ?_)
    · refine lv_aload_n hx hb d_OB_value_38 rfl (lv_at hl 0 rfl) ?_
      refine gf_OB_search F hK hP d_OB_value_39 ?_
      refine lv_iload_n hx hb d_OB_value_42 rfl (lv_at hl 1 rfl) ?_
      refine x_Se_bestNumber (j := j) hj (by omega) F (tt3 76 rfl rfl) ⟨Nat.le_of_ble_eq_true rfl, Nat.le_of_ble_eq_true rfl⟩ hK hP hl.1 (Nat.le_of_ble_eq_true rfl) ⟨Nat.zero_le _, Nat.zero_le _⟩ d_OB_value_43 ?_
      exact ok_iretR F hr hlk (rfl) d_OB_value_46
    · exact absurd c2 h2
  · exact absurd h1 c1
theorem x_OB_value {σ : oS} (hfo : σ 17 0 0 = 0 ∨ σ 17 0 0 = 1) {x : Int32} {j : Nat} (hj : x = nI j) (hj9 : j < 5) (h1 : ob_c σ x = 0) (h2 : ¬ σ 17 0 0 = 0) (F : CallFix p m c cc nL s args (cw :: tt) own) (hG : Cond.methodLink own index y_OB_value ∈ tt) (hR : 2 + 1 ≤ R.frames ∧ 8 + (2 + 11) + 41 ≤ R.locals) (hK : va_K D vwCl (ot cI cL) s) (hP : va_P D vwCl (ow cI cL ad σ) H) (hsz : ls.size = nL) (hW : (rest.map fun v => v.category).sum ≤ 8) (hcs : cells ≤ R.cells ∧ slots ≤ R.slots) (hdg : decode cc pc = .ok (.invokevirtual index, 3)) (kk : W p l e R s m args below meth c H locs cells slots Q (F0 m (pc + 3) ls (.int (σ 12 0 j) :: rest))) : W p l e R s m args below meth c H locs cells slots Q (F0 m pc ls (.int x :: .ref (ad 0) :: rest)) :=
  ok_VR (As := [.int x]) F (c_OB_value σ hfo hj hj9 h1 h2) 1 (tt_V hG i_OB_value l_OB_value in9_OB k_OB_value) rfl ⟨rfl, rfl⟩ (by decide +kernel) hR hK hP (0) 5 rfl rfl ow_0 rfl hsz rfl hW hcs hdg kk
set_option maxHeartbeats 4000000 in
set_option maxRecDepth 100000 in
theorem c_OB_multiplier (σ : oS) {r : Nat} {u : Nat} (h_r : σ 9 0 0 = nI r) (h_u : σ 10 0 0 = nI u) (hr4 : r ≤ 4) (hu4 : u ≤ 4) {x : Int32} {k : Nat} (hk : x = nI k) (hk9 : k < 8) {y : Int32} (hk8 : k < r + u) (h1 : ¬ x < 0) (h2 : x < σ 9 0 0 + σ 10 0 0) (h3 : ¬ li_w σ (ls_i r k) y = 0) : ok_MM l y_OB_multiplier (Cond.code y_OB_multiplier b_OB_multiplier 4 none :: tt) { frames := 1, cells := 0, slots := 0, locals := 21 } D vwCl (ot cI cL) (ow cI cL ad σ) (ow cI cL ad (u3 σ 6 (ls_i r k) 0 y)) [.ref (ad 0), .int x, .int y] none := by
  refine ok_startM (cc := b_OB_multiplier) (own := ROB) (maxL := 4) (ret := none) (by decide +kernel) rfl rfl (Nat.le_of_ble_eq_true rfl) ?_
  intro p e s m below meth c A F hr hlk hA hP hK hD hS ls hl
  have hl : lv_has ls 4 [(0, .ref (ad 0)), (1, .int x), (2, .int y)] := hl
  have hx := F.1
  have hb := F.2.1
  refine lv_iload_n hx hb d_OB_multiplier_0 rfl (lv_at hl 1 rfl) ?_
  refine lv_if_lt (tgt := 15) hx hb d_OB_multiplier_1 (by decide) (fun c1 => ?_) (fun c1 => ?_)
  · first | exact absurd c1 h1 | exact absurd h2 c1
  · refine lv_iload_n hx hb d_OB_multiplier_4 rfl (lv_at hl 1 rfl) ?_
    refine lv_aload_n hx hb d_OB_multiplier_5 rfl (lv_at hl 0 rfl) ?_
    refine gf_OB_lines F hK hP d_OB_multiplier_6 ?_
    refine x_Ls_count F (tt1 202 rfl rfl) ⟨Nat.le_of_ble_eq_true rfl, Nat.le_of_ble_eq_true rfl⟩ hK hP hl.1 (Nat.le_of_ble_eq_true rfl) ⟨Nat.zero_le _, Nat.zero_le _⟩ d_OB_multiplier_9 ?_
    refine lv_icmp_lt (tgt := 25) hx hb d_OB_multiplier_12 (by decide) (fun c2 => ?_) (fun c2 => ?_)
    · refine lv_aload_n hx hb d_OB_multiplier_25 rfl (lv_at hl 0 rfl) ?_
      refine gf_OB_lines F hK hP d_OB_multiplier_26 ?_
      refine lv_iload_n hx hb d_OB_multiplier_29 rfl (lv_at hl 1 rfl) ?_
      refine x_Ls_at (r := r) (u := u) h_r h_u hr4 hu4 (k := k) hk (by omega) (by omega) F (tt1 203 rfl rfl) ⟨Nat.le_of_ble_eq_true rfl, Nat.le_of_ble_eq_true rfl⟩ hK hP hl.1 (Nat.le_of_ble_eq_true rfl) ⟨Nat.zero_le _, Nat.zero_le _⟩ d_OB_multiplier_30 ?_
      refine lv_astore_n (lv' := [(3, .ref (ad (4 * ls_i r k + 14))), (0, .ref (ad 0)), (1, .int x), (2, .int y)]) hx hb d_OB_multiplier_33 rfl hl (by decide) rfl (fun ls hl => ?_)
      refine lv_aload_n hx hb d_OB_multiplier_34 rfl (lv_at hl 0 rfl) ?_
      refine lv_iload_n hx hb d_OB_multiplier_35 rfl (lv_at hl 3 rfl) ?_
      refine x_Li_allowsWeight (i := (ls_i r k)) (ls_i_lt hr4 hu4 (by omega)) F (tt3 88 rfl rfl) ⟨Nat.le_of_ble_eq_true rfl, Nat.le_of_ble_eq_true rfl⟩ hK hP hl.1 (Nat.le_of_ble_eq_true rfl) ⟨Nat.zero_le _, Nat.zero_le _⟩ d_OB_multiplier_36 ?_
      refine lv_if_ne (tgt := 52) hx hb d_OB_multiplier_39 (by decide) (fun c3 => ?_) (fun c3 => ?_)
      · refine lv_aload_n hx hb d_OB_multiplier_52 rfl (lv_at hl 0 rfl) ?_
        refine lv_iload_n hx hb d_OB_multiplier_53 rfl (lv_at hl 3 rfl) ?_
        refine x_Li_setWeight (i := (ls_i r k)) (ls_i_lt hr4 hu4 (by omega)) F (tt3 95 rfl rfl) ⟨Nat.le_of_ble_eq_true rfl, Nat.le_of_ble_eq_true rfl⟩ hK hP hD hS hA hl.1 (Nat.le_of_ble_eq_true rfl) ⟨Nat.zero_le _, Nat.zero_le _⟩ d_OB_multiplier_54 (fun H locs hP hD hS => ?_)
        exact ok_vretM F hr hlk hP hD hS d_OB_multiplier_57
      · exact absurd c3 h3
    · first | exact absurd c2 h1 | exact absurd h2 c2
theorem x_OB_multiplier {σ : oS} {r : Nat} {u : Nat} (h_r : σ 9 0 0 = nI r) (h_u : σ 10 0 0 = nI u) (hr4 : r ≤ 4) (hu4 : u ≤ 4) {x : Int32} {k : Nat} (hk : x = nI k) (hk9 : k < 8) {y : Int32} (hk8 : k < r + u) (h1 : ¬ x < 0) (h2 : x < σ 9 0 0 + σ 10 0 0) (h3 : ¬ li_w σ (ls_i r k) y = 0) (F : CallFix p m c cc nL s args (cw :: tt) own) (hG : Cond.methodLink own index y_OB_multiplier ∈ tt) (hR : 1 + 1 ≤ R.frames ∧ 8 + (4 + 11) + 21 ≤ R.locals) (hK : va_K D vwCl (ot cI cL) s) (hP : va_P D vwCl (ow cI cL ad σ) H) (hD : va_D A (ow cI cL ad σ)) (hS : va_S A H0 H locs) (hA : ∀ q, H0.size ≤ q → A q) (hsz : ls.size = nL) (hW : (rest.map fun v => v.category).sum ≤ 8) (hcs : cells ≤ R.cells ∧ slots ≤ R.slots) (hdg : decode cc pc = .ok (.invokevirtual index, 3)) (kk : ∀ (H1 : Heap) (locs1 : List Loc), va_P D vwCl (ow cI cL ad (u3 σ 6 (ls_i r k) 0 y)) H1 → va_D A (ow cI cL ad (u3 σ 6 (ls_i r k) 0 y)) → va_S A H0 H1 locs1 → W p l e R s m args below meth c H1 locs1 cells slots Q (F0 m (pc + 3) ls (rest))) : W p l e R s m args below meth c H locs cells slots Q (F0 m pc ls (.int y :: .int x :: .ref (ad 0) :: rest)) :=
  ok_VM (As := [.int x, .int y]) F (c_OB_multiplier σ h_r h_u hr4 hu4 hk hk9 hk8 h1 h2 h3) 2 (tt_V hG i_OB_multiplier l_OB_multiplier in9_OB k_OB_multiplier) rfl ⟨rfl, rfl⟩ (by decide +kernel) hR hK hP hD hS hA (0) 5 rfl rfl ow_0 rfl hsz rfl hW hcs hdg kk
set_option maxHeartbeats 4000000 in
set_option maxRecDepth 100000 in
theorem c_OB_follow (σ : oS) {x : Int32} {j : Nat} (hj : x = nI j) (hj9 : j < 5) {y : Int32} (h1 : ob_p σ x y = 0) (h2 : σ 20 0 0 < 10) (h3 : fo_b (σ 19 0 j) y = 0) : ok_MM l y_OB_follow (Cond.code y_OB_follow b_OB_follow 3 (some .int) :: tt) { frames := 3, cells := 0, slots := 0, locals := 63 } D vwCl (ot cI cL) (ow cI cL ad σ) (ow cI cL ad (u3 (u3 σ 19 0 j (σ 19 0 j ||| (1 <<< (y &&& 31)))) 20 0 0 (σ 20 0 0 + 1))) [.ref (ad 0), .int x, .int y] (some (.int (σ 20 0 0 + 1))) := by
  refine ok_startM (cc := b_OB_follow) (own := ROB) (maxL := 3) (ret := (some .int)) (by decide +kernel) rfl rfl (Nat.le_of_ble_eq_true rfl) ?_
  intro p e s m below meth c A F hr hlk hA hP hK hD hS ls hl
  have hl : lv_has ls 3 [(0, .ref (ad 0)), (1, .int x), (2, .int y)] := hl
  have hx := F.1
  have hb := F.2.1
  refine lv_aload_n hx hb d_OB_follow_0 rfl (lv_at hl 0 rfl) ?_
  refine lv_iload_n hx hb d_OB_follow_1 rfl (lv_at hl 1 rfl) ?_
  refine lv_iload_n hx hb d_OB_follow_2 rfl (lv_at hl 2 rfl) ?_
  refine x_OB_isNoPair F (tt2 202 rfl rfl) ⟨Nat.le_of_ble_eq_true rfl, Nat.le_of_ble_eq_true rfl⟩ hK hP hl.1 (Nat.le_of_ble_eq_true rfl) ⟨Nat.zero_le _, Nat.zero_le _⟩ d_OB_follow_3 ?_
  refine lv_if_eq (tgt := 19) hx hb d_OB_follow_6 (by decide) (fun c1 => ?_) (fun c1 => ?_)
  · refine lv_aload_n hx hb d_OB_follow_19 rfl (lv_at hl 0 rfl) ?_
    refine gf_OB_follows F hK hP d_OB_follow_20 ?_
    refine x_Fo_count F (tt3 103 rfl rfl) ⟨Nat.le_of_ble_eq_true rfl, Nat.le_of_ble_eq_true rfl⟩ hK hP hl.1 (Nat.le_of_ble_eq_true rfl) ⟨Nat.zero_le _, Nat.zero_le _⟩ d_OB_follow_23 ?_
    refine lv_bipush (v := 10) hx hb d_OB_follow_26 (by decide) ?_
    refine lv_icmp_lt (tgt := 41) hx hb d_OB_follow_28 (by decide) (fun c2 => ?_) (fun c2 => ?_)
    · refine lv_aload_n hx hb d_OB_follow_41 rfl (lv_at hl 0 rfl) ?_
      refine gf_OB_follows F hK hP d_OB_follow_42 ?_
      refine lv_iload_n hx hb d_OB_follow_45 rfl (lv_at hl 1 rfl) ?_
      refine lv_iload_n hx hb d_OB_follow_46 rfl (lv_at hl 2 rfl) ?_
      refine x_Fo_has (j := j) hj (by omega) F (tt3 108 rfl rfl) ⟨Nat.le_of_ble_eq_true rfl, Nat.le_of_ble_eq_true rfl⟩ hK hP hl.1 (Nat.le_of_ble_eq_true rfl) ⟨Nat.zero_le _, Nat.zero_le _⟩ d_OB_follow_47 ?_
      refine lv_if_eq (tgt := 63) hx hb d_OB_follow_50 (by decide) (fun c3 => ?_) (fun c3 => ?_)
      · refine lv_aload_n hx hb d_OB_follow_63 rfl (lv_at hl 0 rfl) ?_
        refine gf_OB_follows F hK hP d_OB_follow_64 ?_
        refine lv_iload_n hx hb d_OB_follow_67 rfl (lv_at hl 1 rfl) ?_
        refine lv_iload_n hx hb d_OB_follow_68 rfl (lv_at hl 2 rfl) ?_
        refine x_Fo_add (j := j) hj (by omega) F (tt3 116 rfl rfl) ⟨Nat.le_of_ble_eq_true rfl, Nat.le_of_ble_eq_true rfl⟩ hK hP hD hS hA hl.1 (Nat.le_of_ble_eq_true rfl) ⟨Nat.zero_le _, Nat.zero_le _⟩ d_OB_follow_69 (fun H locs hP hD hS => ?_)
        exact ok_iretM F hr hlk hP hD hS (rfl) d_OB_follow_72
      · exact absurd h3 c3
    · exact absurd h2 c2
  · exact absurd h1 c1
theorem x_OB_follow {σ : oS} {x : Int32} {j : Nat} (hj : x = nI j) (hj9 : j < 5) {y : Int32} (h1 : ob_p σ x y = 0) (h2 : σ 20 0 0 < 10) (h3 : fo_b (σ 19 0 j) y = 0) (F : CallFix p m c cc nL s args (cw :: tt) own) (hG : Cond.methodLink own index y_OB_follow ∈ tt) (hR : 3 + 1 ≤ R.frames ∧ 8 + (3 + 11) + 63 ≤ R.locals) (hK : va_K D vwCl (ot cI cL) s) (hP : va_P D vwCl (ow cI cL ad σ) H) (hD : va_D A (ow cI cL ad σ)) (hS : va_S A H0 H locs) (hA : ∀ q, H0.size ≤ q → A q) (hsz : ls.size = nL) (hW : (rest.map fun v => v.category).sum ≤ 8) (hcs : cells ≤ R.cells ∧ slots ≤ R.slots) (hdg : decode cc pc = .ok (.invokevirtual index, 3)) (kk : ∀ (H1 : Heap) (locs1 : List Loc), va_P D vwCl (ow cI cL ad (u3 (u3 σ 19 0 j (σ 19 0 j ||| (1 <<< (y &&& 31)))) 20 0 0 (σ 20 0 0 + 1))) H1 → va_D A (ow cI cL ad (u3 (u3 σ 19 0 j (σ 19 0 j ||| (1 <<< (y &&& 31)))) 20 0 0 (σ 20 0 0 + 1))) → va_S A H0 H1 locs1 → W p l e R s m args below meth c H1 locs1 cells slots Q (F0 m (pc + 3) ls (.int (σ 20 0 0 + 1) :: rest))) : W p l e R s m args below meth c H locs cells slots Q (F0 m pc ls (.int y :: .int x :: .ref (ad 0) :: rest)) :=
  ok_VM (As := [.int x, .int y]) F (c_OB_follow σ hj hj9 h1 h2 h3) 2 (tt_V hG i_OB_follow l_OB_follow in9_OB k_OB_follow) rfl ⟨rfl, rfl⟩ (by decide +kernel) hR hK hP hD hS hA (0) 5 rfl rfl ow_0 rfl hsz rfl hW hcs hdg kk
set_option maxHeartbeats 4000000 in
set_option maxRecDepth 100000 in
theorem c_OB_chain (σ : oS) {n : Nat} (hn : σ 2 0 0 = nI n) (hn9 : n ≤ 5) {x : Int32} {k : Nat} (hk : x = nI k) (hk9 : k < 2147483648) (h1 : 0 ≤ x) : ok_MR l y_OB_chain (Cond.code y_OB_chain b_OB_chain 2 (some .int) :: tt) { frames := 8, cells := 0, slots := 0, locals := 208 } D vwCl (ot cI cL) (ow cI cL ad σ) [.ref (ad 0), .int x] (some (.int (if n ≤ k then -1 else fo_a σ (k + 1) 0 ((1 <<< (σ 2 0 0 &&& 31)) - 1) (-1)))) := by
  refine ok_startR (cc := b_OB_chain) (own := ROB) (maxL := 2) (ret := (some .int)) (by decide +kernel) rfl rfl (Nat.le_of_ble_eq_true rfl) ?_
  intro p e s m below meth c F hr hlk hP hK ls hl
  have hl : lv_has ls 2 [(0, .ref (ad 0)), (1, .int x)] := hl
  have hx := F.1
  have hb := F.2.1
  refine lv_iload_n hx hb d_OB_chain_0 rfl (lv_at hl 1 rfl) ?_
  refine lv_if_ge (tgt := 14) hx hb d_OB_chain_1 (by decide) (fun c1 => ?_) (fun c1 => ?_)
  · refine lv_aload_n hx hb d_OB_chain_14 rfl (lv_at hl 0 rfl) ?_
    refine gf_OB_follows F hK hP d_OB_chain_15 ?_
    refine lv_iload_n hx hb d_OB_chain_18 rfl (lv_at hl 1 rfl) ?_
    refine lv_aload_n hx hb d_OB_chain_19 rfl (lv_at hl 0 rfl) ?_
    refine gf_OB_columns F hK hP d_OB_chain_20 ?_
    refine x_Co_count F (tt1 174 rfl rfl) ⟨Nat.le_of_ble_eq_true rfl, Nat.le_of_ble_eq_true rfl⟩ hK hP hl.1 (Nat.le_of_ble_eq_true rfl) ⟨Nat.zero_le _, Nat.zero_le _⟩ d_OB_chain_23 ?_
    refine x_Fo_longestAt (k := k) hk (by omega) (n := n) hn (by omega) F (tt3 128 rfl rfl) ⟨Nat.le_of_ble_eq_true rfl, Nat.le_of_ble_eq_true rfl⟩ hK hP hl.1 (Nat.le_of_ble_eq_true rfl) ⟨Nat.zero_le _, Nat.zero_le _⟩ d_OB_chain_26 ?_
    exact ok_iretR F hr hlk (rfl) d_OB_chain_29
  · exact absurd h1 c1
theorem x_OB_chain {σ : oS} {n : Nat} (hn : σ 2 0 0 = nI n) (hn9 : n ≤ 5) {x : Int32} {k : Nat} (hk : x = nI k) (hk9 : k < 2147483648) (h1 : 0 ≤ x) (F : CallFix p m c cc nL s args (cw :: tt) own) (hG : Cond.methodLink own index y_OB_chain ∈ tt) (hR : 8 + 1 ≤ R.frames ∧ 8 + (2 + 11) + 208 ≤ R.locals) (hK : va_K D vwCl (ot cI cL) s) (hP : va_P D vwCl (ow cI cL ad σ) H) (hsz : ls.size = nL) (hW : (rest.map fun v => v.category).sum ≤ 8) (hcs : cells ≤ R.cells ∧ slots ≤ R.slots) (hdg : decode cc pc = .ok (.invokevirtual index, 3)) (kk : W p l e R s m args below meth c H locs cells slots Q (F0 m (pc + 3) ls (.int (if n ≤ k then -1 else fo_a σ (k + 1) 0 ((1 <<< (σ 2 0 0 &&& 31)) - 1) (-1)) :: rest))) : W p l e R s m args below meth c H locs cells slots Q (F0 m pc ls (.int x :: .ref (ad 0) :: rest)) :=
  ok_VR (As := [.int x]) F (c_OB_chain σ hn hn9 hk hk9 h1) 1 (tt_V hG i_OB_chain l_OB_chain in9_OB k_OB_chain) rfl ⟨rfl, rfl⟩ (by decide +kernel) hR hK hP (0) 5 rfl rfl ow_0 rfl hsz rfl hW hcs hdg kk
end
end
section
abbrev b_Mo_init : ByteArray := prog_8_method_1_code
def y_Mo_init : MethodName := ⟨RMo, "<init>", "()V"⟩
theorem k_Mo_init : Cond.code y_Mo_init b_Mo_init 1 none ∈ tt := (tt3 143 rfl rfl)
theorem i_Mo_init : Cond.instanceMethod y_Mo_init ∈ tt := (tt3 142 rfl rfl)
theorem d_Mo_init_0 : decode b_Mo_init 0 = .ok (.aload_n 0, 1) := by decide +kernel
theorem d_Mo_init_1 : decode b_Mo_init 1 = .ok (.invokespecial 1, 3) := by decide +kernel
theorem d_Mo_init_4 : decode b_Mo_init 4 = .ok (.aload_n 0, 1) := by decide +kernel
theorem d_Mo_init_5 : decode b_Mo_init 5 = .ok (.iconst 5, 1) := by decide +kernel
theorem d_Mo_init_6 : decode b_Mo_init 6 = .ok (.newarray .int, 2) := by decide +kernel
theorem d_Mo_init_8 : decode b_Mo_init 8 = .ok (.putfield 7, 3) := by decide +kernel
theorem d_Mo_init_11 : decode b_Mo_init 11 = .ok (.aload_n 0, 1) := by decide +kernel
theorem d_Mo_init_12 : decode b_Mo_init 12 = .ok (.iconst 5, 1) := by decide +kernel
theorem d_Mo_init_13 : decode b_Mo_init 13 = .ok (.newarray .int, 2) := by decide +kernel
theorem d_Mo_init_15 : decode b_Mo_init 15 = .ok (.putfield 13, 3) := by decide +kernel
theorem d_Mo_init_18 : decode b_Mo_init 18 = .ok (.aload_n 0, 1) := by decide +kernel
theorem d_Mo_init_19 : decode b_Mo_init 19 = .ok (.iconst 4, 1) := by decide +kernel
theorem d_Mo_init_20 : decode b_Mo_init 20 = .ok (.newarray .int, 2) := by decide +kernel
theorem d_Mo_init_22 : decode b_Mo_init 22 = .ok (.putfield 16, 3) := by decide +kernel
theorem d_Mo_init_25 : decode b_Mo_init 25 = .ok (.aload_n 0, 1) := by decide +kernel
theorem d_Mo_init_26 : decode b_Mo_init 26 = .ok (.iconst 4, 1) := by decide +kernel
theorem d_Mo_init_27 : decode b_Mo_init 27 = .ok (.newarray .int, 2) := by decide +kernel
theorem d_Mo_init_29 : decode b_Mo_init 29 = .ok (.putfield 19, 3) := by decide +kernel
theorem d_Mo_init_32 : decode b_Mo_init 32 = .ok (.aload_n 0, 1) := by decide +kernel
theorem d_Mo_init_33 : decode b_Mo_init 33 = .ok (.bipush 20, 2) := by decide +kernel
theorem d_Mo_init_35 : decode b_Mo_init 35 = .ok (.newarray .int, 2) := by decide +kernel
theorem d_Mo_init_37 : decode b_Mo_init 37 = .ok (.putfield 22, 3) := by decide +kernel
theorem d_Mo_init_40 : decode b_Mo_init 40 = .ok (.aload_n 0, 1) := by decide +kernel
theorem d_Mo_init_41 : decode b_Mo_init 41 = .ok (.iconst 4, 1) := by decide +kernel
theorem d_Mo_init_42 : decode b_Mo_init 42 = .ok (.newarray .int, 2) := by decide +kernel
theorem d_Mo_init_44 : decode b_Mo_init 44 = .ok (.putfield 25, 3) := by decide +kernel
theorem d_Mo_init_47 : decode b_Mo_init 47 = .ok (.aload_n 0, 1) := by decide +kernel
theorem d_Mo_init_48 : decode b_Mo_init 48 = .ok (.iconst 4, 1) := by decide +kernel
theorem d_Mo_init_49 : decode b_Mo_init 49 = .ok (.newarray .int, 2) := by decide +kernel
theorem d_Mo_init_51 : decode b_Mo_init 51 = .ok (.putfield 28, 3) := by decide +kernel
theorem d_Mo_init_54 : decode b_Mo_init 54 = .ok (.aload_n 0, 1) := by decide +kernel
theorem d_Mo_init_55 : decode b_Mo_init 55 = .ok (.bipush 8, 2) := by decide +kernel
theorem d_Mo_init_57 : decode b_Mo_init 57 = .ok (.newarray .int, 2) := by decide +kernel
theorem d_Mo_init_59 : decode b_Mo_init 59 = .ok (.putfield 31, 3) := by decide +kernel
theorem d_Mo_init_62 : decode b_Mo_init 62 = .ok (.aload_n 0, 1) := by decide +kernel
theorem d_Mo_init_63 : decode b_Mo_init 63 = .ok (.bipush 25, 2) := by decide +kernel
theorem d_Mo_init_65 : decode b_Mo_init 65 = .ok (.newarray .boolean, 2) := by decide +kernel
theorem d_Mo_init_67 : decode b_Mo_init 67 = .ok (.putfield 34, 3) := by decide +kernel
theorem d_Mo_init_70 : decode b_Mo_init 70 = .ok (.aload_n 0, 1) := by decide +kernel
theorem d_Mo_init_71 : decode b_Mo_init 71 = .ok (.iconst 5, 1) := by decide +kernel
theorem d_Mo_init_72 : decode b_Mo_init 72 = .ok (.newarray .int, 2) := by decide +kernel
theorem d_Mo_init_74 : decode b_Mo_init 74 = .ok (.putfield 38, 3) := by decide +kernel
theorem d_Mo_init_77 : decode b_Mo_init 77 = .ok (.aload_n 0, 1) := by decide +kernel
theorem d_Mo_init_78 : decode b_Mo_init 78 = .ok (.iconst 5, 1) := by decide +kernel
theorem d_Mo_init_79 : decode b_Mo_init 79 = .ok (.newarray .int, 2) := by decide +kernel
theorem d_Mo_init_81 : decode b_Mo_init 81 = .ok (.putfield 41, 3) := by decide +kernel
theorem d_Mo_init_84 : decode b_Mo_init 84 = .ok (.aload_n 0, 1) := by decide +kernel
theorem d_Mo_init_85 : decode b_Mo_init 85 = .ok (.iconst 5, 1) := by decide +kernel
theorem d_Mo_init_86 : decode b_Mo_init 86 = .ok (.newarray .int, 2) := by decide +kernel
theorem d_Mo_init_88 : decode b_Mo_init 88 = .ok (.putfield 44, 3) := by decide +kernel
theorem d_Mo_init_91 : decode b_Mo_init 91 = .ok (.aload_n 0, 1) := by decide +kernel
theorem d_Mo_init_92 : decode b_Mo_init 92 = .ok (.iconst 5, 1) := by decide +kernel
theorem d_Mo_init_93 : decode b_Mo_init 93 = .ok (.newarray .int, 2) := by decide +kernel
theorem d_Mo_init_95 : decode b_Mo_init 95 = .ok (.putfield 47, 3) := by decide +kernel
theorem d_Mo_init_98 : decode b_Mo_init 98 = .ok (.aload_n 0, 1) := by decide +kernel
theorem d_Mo_init_99 : decode b_Mo_init 99 = .ok (.iconst 5, 1) := by decide +kernel
theorem d_Mo_init_100 : decode b_Mo_init 100 = .ok (.newarray .int, 2) := by decide +kernel
theorem d_Mo_init_102 : decode b_Mo_init 102 = .ok (.putfield 50, 3) := by decide +kernel
theorem d_Mo_init_105 : decode b_Mo_init 105 = .ok (.return_, 1) := by decide +kernel
abbrev b_Mo_thrown : ByteArray := prog_8_method_2_code
def y_Mo_thrown : MethodName := ⟨RMo, "thrown", "()I"⟩
theorem k_Mo_thrown : Cond.code y_Mo_thrown b_Mo_thrown 1 (some .int) ∈ tt := (tt3 222 rfl rfl)
theorem i_Mo_thrown : Cond.instanceMethod y_Mo_thrown ∈ tt := (tt3 220 rfl rfl)
theorem l_Mo_thrown : Cond.selects RMo y_Mo_thrown y_Mo_thrown ∈ tt := (tt3 221 rfl rfl)
theorem d_Mo_thrown_0 : decode b_Mo_thrown 0 = .ok (.aload_n 0, 1) := by decide +kernel
theorem d_Mo_thrown_1 : decode b_Mo_thrown 1 = .ok (.getfield 53, 3) := by decide +kernel
theorem d_Mo_thrown_4 : decode b_Mo_thrown 4 = .ok (.ireturn, 1) := by decide +kernel
abbrev b_Mo_in : ByteArray := prog_8_method_3_code
def y_Mo_in : MethodName := ⟨RMo, "in", "(III)Z"⟩
theorem k_Mo_in : Cond.code y_Mo_in b_Mo_in 3 (some .boolean) ∈ tt := (tt3 229 rfl rfl)
theorem s_Mo_in : Cond.static y_Mo_in ∈ tt := (tt3 228 rfl rfl)
theorem d_Mo_in_0 : decode b_Mo_in 0 = .ok (.iload_n 0, 1) := by decide +kernel
theorem d_Mo_in_1 : decode b_Mo_in 1 = .ok (.iload_n 1, 1) := by decide +kernel
theorem d_Mo_in_2 : decode b_Mo_in 2 = .ok (.if_icmp .lt 12, 3) := by decide +kernel
theorem d_Mo_in_5 : decode b_Mo_in 5 = .ok (.iload_n 0, 1) := by decide +kernel
theorem d_Mo_in_6 : decode b_Mo_in 6 = .ok (.iload_n 2, 1) := by decide +kernel
theorem d_Mo_in_7 : decode b_Mo_in 7 = .ok (.if_icmp .gt 7, 3) := by decide +kernel
theorem d_Mo_in_10 : decode b_Mo_in 10 = .ok (.iconst 1, 1) := by decide +kernel
theorem d_Mo_in_11 : decode b_Mo_in 11 = .ok (.goto 4, 3) := by decide +kernel
theorem d_Mo_in_14 : decode b_Mo_in 14 = .ok (.iconst 0, 1) := by decide +kernel
theorem d_Mo_in_15 : decode b_Mo_in 15 = .ok (.ireturn, 1) := by decide +kernel
abbrev b_Mo_goes : ByteArray := prog_8_method_4_code
def y_Mo_goes : MethodName := ⟨RMo, "goes", "(ZZ)Z"⟩
theorem k_Mo_goes : Cond.code y_Mo_goes b_Mo_goes 3 (some .boolean) ∈ tt := (tt3 233 rfl rfl)
theorem i_Mo_goes : Cond.instanceMethod y_Mo_goes ∈ tt := (tt3 232 rfl rfl)
theorem l_Mo_goes : Cond.selects RMo y_Mo_goes y_Mo_goes ∈ tt := (tt0 12 rfl rfl)
theorem d_Mo_goes_0 : decode b_Mo_goes 0 = .ok (.aload_n 0, 1) := by decide +kernel
theorem d_Mo_goes_1 : decode b_Mo_goes 1 = .ok (.iload_n 1, 1) := by decide +kernel
theorem d_Mo_goes_2 : decode b_Mo_goes 2 = .ok (.ifCond .ne 7, 3) := by decide +kernel
theorem d_Mo_goes_5 : decode b_Mo_goes 5 = .ok (.iconst 1, 1) := by decide +kernel
theorem d_Mo_goes_6 : decode b_Mo_goes 6 = .ok (.goto 12, 3) := by decide +kernel
theorem d_Mo_goes_9 : decode b_Mo_goes 9 = .ok (.iload_n 2, 1) := by decide +kernel
theorem d_Mo_goes_10 : decode b_Mo_goes 10 = .ok (.ifCond .ne 7, 3) := by decide +kernel
theorem d_Mo_goes_13 : decode b_Mo_goes 13 = .ok (.iconst 2, 1) := by decide +kernel
theorem d_Mo_goes_14 : decode b_Mo_goes 14 = .ok (.goto 4, 3) := by decide +kernel
theorem d_Mo_goes_17 : decode b_Mo_goes 17 = .ok (.iconst 0, 1) := by decide +kernel
theorem d_Mo_goes_18 : decode b_Mo_goes 18 = .ok (.putfield 53, 3) := by decide +kernel
theorem d_Mo_goes_21 : decode b_Mo_goes 21 = .ok (.aload_n 0, 1) := by decide +kernel
theorem d_Mo_goes_22 : decode b_Mo_goes 22 = .ok (.getfield 53, 3) := by decide +kernel
theorem d_Mo_goes_25 : decode b_Mo_goes 25 = .ok (.ifCond .ne 7, 3) := by decide +kernel
theorem d_Mo_goes_28 : decode b_Mo_goes 28 = .ok (.iconst 1, 1) := by decide +kernel
theorem d_Mo_goes_29 : decode b_Mo_goes 29 = .ok (.goto 4, 3) := by decide +kernel
theorem d_Mo_goes_32 : decode b_Mo_goes 32 = .ok (.iconst 0, 1) := by decide +kernel
theorem d_Mo_goes_33 : decode b_Mo_goes 33 = .ok (.ireturn, 1) := by decide +kernel
abbrev b_Mo_isColumn : ByteArray := prog_8_method_5_code
def y_Mo_isColumn : MethodName := ⟨RMo, "isColumn", "(I)Z"⟩
theorem k_Mo_isColumn : Cond.code y_Mo_isColumn b_Mo_isColumn 2 (some .boolean) ∈ tt := (tt4 17 rfl rfl)
theorem i_Mo_isColumn : Cond.instanceMethod y_Mo_isColumn ∈ tt := (tt4 16 rfl rfl)
theorem l_Mo_isColumn : Cond.selects RMo y_Mo_isColumn y_Mo_isColumn ∈ tt := (tt0 16 rfl rfl)
theorem d_Mo_isColumn_0 : decode b_Mo_isColumn 0 = .ok (.iload_n 1, 1) := by decide +kernel
theorem d_Mo_isColumn_1 : decode b_Mo_isColumn 1 = .ok (.iconst 0, 1) := by decide +kernel
theorem d_Mo_isColumn_2 : decode b_Mo_isColumn 2 = .ok (.aload_n 0, 1) := by decide +kernel
theorem d_Mo_isColumn_3 : decode b_Mo_isColumn 3 = .ok (.getfield 57, 3) := by decide +kernel
theorem d_Mo_isColumn_6 : decode b_Mo_isColumn 6 = .ok (.iconst 1, 1) := by decide +kernel
theorem d_Mo_isColumn_7 : decode b_Mo_isColumn 7 = .ok (.isub, 1) := by decide +kernel
theorem d_Mo_isColumn_8 : decode b_Mo_isColumn 8 = .ok (.invokestatic 60, 3) := by decide +kernel
theorem d_Mo_isColumn_11 : decode b_Mo_isColumn 11 = .ok (.ireturn, 1) := by decide +kernel
abbrev b_Mo_isRow : ByteArray := prog_8_method_6_code
def y_Mo_isRow : MethodName := ⟨RMo, "isRow", "(I)Z"⟩
theorem k_Mo_isRow : Cond.code y_Mo_isRow b_Mo_isRow 2 (some .boolean) ∈ tt := (tt4 13 rfl rfl)
theorem i_Mo_isRow : Cond.instanceMethod y_Mo_isRow ∈ tt := (tt4 12 rfl rfl)
theorem l_Mo_isRow : Cond.selects RMo y_Mo_isRow y_Mo_isRow ∈ tt := (tt0 15 rfl rfl)
theorem d_Mo_isRow_0 : decode b_Mo_isRow 0 = .ok (.iload_n 1, 1) := by decide +kernel
theorem d_Mo_isRow_1 : decode b_Mo_isRow 1 = .ok (.iconst 0, 1) := by decide +kernel
theorem d_Mo_isRow_2 : decode b_Mo_isRow 2 = .ok (.aload_n 0, 1) := by decide +kernel
theorem d_Mo_isRow_3 : decode b_Mo_isRow 3 = .ok (.getfield 64, 3) := by decide +kernel
theorem d_Mo_isRow_6 : decode b_Mo_isRow 6 = .ok (.iconst 1, 1) := by decide +kernel
theorem d_Mo_isRow_7 : decode b_Mo_isRow 7 = .ok (.isub, 1) := by decide +kernel
theorem d_Mo_isRow_8 : decode b_Mo_isRow 8 = .ok (.invokestatic 60, 3) := by decide +kernel
theorem d_Mo_isRow_11 : decode b_Mo_isRow 11 = .ok (.ireturn, 1) := by decide +kernel
abbrev b_Mo_anew : ByteArray := prog_8_method_7_code
def y_Mo_anew : MethodName := ⟨RMo, "anew", "()V"⟩
theorem k_Mo_anew : Cond.code y_Mo_anew b_Mo_anew 1 none ∈ tt := (tt3 237 rfl rfl)
theorem i_Mo_anew : Cond.instanceMethod y_Mo_anew ∈ tt := (tt3 236 rfl rfl)
theorem l_Mo_anew : Cond.selects RMo y_Mo_anew y_Mo_anew ∈ tt := (tt0 13 rfl rfl)
theorem d_Mo_anew_0 : decode b_Mo_anew 0 = .ok (.aload_n 0, 1) := by decide +kernel
theorem d_Mo_anew_1 : decode b_Mo_anew 1 = .ok (.iconst 0, 1) := by decide +kernel
theorem d_Mo_anew_2 : decode b_Mo_anew 2 = .ok (.putfield 67, 3) := by decide +kernel
theorem d_Mo_anew_5 : decode b_Mo_anew 5 = .ok (.aload_n 0, 1) := by decide +kernel
theorem d_Mo_anew_6 : decode b_Mo_anew 6 = .ok (.getfield 38, 3) := by decide +kernel
theorem d_Mo_anew_9 : decode b_Mo_anew 9 = .ok (.iconst 0, 1) := by decide +kernel
theorem d_Mo_anew_10 : decode b_Mo_anew 10 = .ok (.aload_n 0, 1) := by decide +kernel
theorem d_Mo_anew_11 : decode b_Mo_anew 11 = .ok (.getfield 13, 3) := by decide +kernel
theorem d_Mo_anew_14 : decode b_Mo_anew 14 = .ok (.iconst 0, 1) := by decide +kernel
theorem d_Mo_anew_15 : decode b_Mo_anew 15 = .ok (.iaload, 1) := by decide +kernel
theorem d_Mo_anew_16 : decode b_Mo_anew 16 = .ok (.iastore, 1) := by decide +kernel
theorem d_Mo_anew_17 : decode b_Mo_anew 17 = .ok (.aload_n 0, 1) := by decide +kernel
theorem d_Mo_anew_18 : decode b_Mo_anew 18 = .ok (.iconst 0, 1) := by decide +kernel
theorem d_Mo_anew_19 : decode b_Mo_anew 19 = .ok (.putfield 70, 3) := by decide +kernel
theorem d_Mo_anew_22 : decode b_Mo_anew 22 = .ok (.aload_n 0, 1) := by decide +kernel
theorem d_Mo_anew_23 : decode b_Mo_anew 23 = .ok (.iconst 0, 1) := by decide +kernel
theorem d_Mo_anew_24 : decode b_Mo_anew 24 = .ok (.putfield 74, 3) := by decide +kernel
theorem d_Mo_anew_27 : decode b_Mo_anew 27 = .ok (.aload_n 0, 1) := by decide +kernel
theorem d_Mo_anew_28 : decode b_Mo_anew 28 = .ok (.iconst 0, 1) := by decide +kernel
theorem d_Mo_anew_29 : decode b_Mo_anew 29 = .ok (.putfield 77, 3) := by decide +kernel
theorem d_Mo_anew_32 : decode b_Mo_anew 32 = .ok (.return_, 1) := by decide +kernel
abbrev b_Mo_noMultipliers : ByteArray := prog_8_method_8_code
def y_Mo_noMultipliers : MethodName := ⟨RMo, "noMultipliers", "()V"⟩
theorem k_Mo_noMultipliers : Cond.code y_Mo_noMultipliers b_Mo_noMultipliers 2 none ∈ tt := (tt4 5 rfl rfl)
theorem i_Mo_noMultipliers : Cond.instanceMethod y_Mo_noMultipliers ∈ tt := (tt4 4 rfl rfl)
theorem l_Mo_noMultipliers : Cond.selects RMo y_Mo_noMultipliers y_Mo_noMultipliers ∈ tt := (tt0 14 rfl rfl)
theorem d_Mo_noMultipliers_0 : decode b_Mo_noMultipliers 0 = .ok (.iconst 0, 1) := by decide +kernel
theorem d_Mo_noMultipliers_1 : decode b_Mo_noMultipliers 1 = .ok (.istore_n 1, 1) := by decide +kernel
theorem d_Mo_noMultipliers_2 : decode b_Mo_noMultipliers 2 = .ok (.iload_n 1, 1) := by decide +kernel
theorem d_Mo_noMultipliers_3 : decode b_Mo_noMultipliers 3 = .ok (.bipush 8, 2) := by decide +kernel
theorem d_Mo_noMultipliers_5 : decode b_Mo_noMultipliers 5 = .ok (.if_icmp .ge 16, 3) := by decide +kernel
theorem d_Mo_noMultipliers_8 : decode b_Mo_noMultipliers 8 = .ok (.aload_n 0, 1) := by decide +kernel
theorem d_Mo_noMultipliers_9 : decode b_Mo_noMultipliers 9 = .ok (.getfield 31, 3) := by decide +kernel
theorem d_Mo_noMultipliers_12 : decode b_Mo_noMultipliers 12 = .ok (.iload_n 1, 1) := by decide +kernel
theorem d_Mo_noMultipliers_13 : decode b_Mo_noMultipliers 13 = .ok (.iconst 0, 1) := by decide +kernel
theorem d_Mo_noMultipliers_14 : decode b_Mo_noMultipliers 14 = .ok (.iastore, 1) := by decide +kernel
theorem d_Mo_noMultipliers_15 : decode b_Mo_noMultipliers 15 = .ok (.iinc 1 1, 3) := by decide +kernel
theorem d_Mo_noMultipliers_18 : decode b_Mo_noMultipliers 18 = .ok (.goto (-16), 3) := by decide +kernel
theorem d_Mo_noMultipliers_21 : decode b_Mo_noMultipliers 21 = .ok (.return_, 1) := by decide +kernel
abbrev b_Mo_column : ByteArray := prog_8_method_9_code
def y_Mo_column : MethodName := ⟨RMo, "column", "(II)I"⟩
theorem k_Mo_column : Cond.code y_Mo_column b_Mo_column 3 (some .int) ∈ tt := (tt3 226 rfl rfl)
theorem i_Mo_column : Cond.instanceMethod y_Mo_column ∈ tt := (tt3 224 rfl rfl)
theorem l_Mo_column : Cond.selects RMo y_Mo_column y_Mo_column ∈ tt := (tt3 225 rfl rfl)
theorem d_Mo_column_0 : decode b_Mo_column 0 = .ok (.aload_n 0, 1) := by decide +kernel
theorem d_Mo_column_1 : decode b_Mo_column 1 = .ok (.iload_n 1, 1) := by decide +kernel
theorem d_Mo_column_2 : decode b_Mo_column 2 = .ok (.sipush (-1000), 3) := by decide +kernel
theorem d_Mo_column_5 : decode b_Mo_column 5 = .ok (.sipush 1000, 3) := by decide +kernel
theorem d_Mo_column_8 : decode b_Mo_column 8 = .ok (.invokestatic 60, 3) := by decide +kernel
theorem d_Mo_column_11 : decode b_Mo_column 11 = .ok (.ifCond .eq 17, 3) := by decide +kernel
theorem d_Mo_column_14 : decode b_Mo_column 14 = .ok (.iload_n 2, 1) := by decide +kernel
theorem d_Mo_column_15 : decode b_Mo_column 15 = .ok (.iconst 0, 1) := by decide +kernel
theorem d_Mo_column_16 : decode b_Mo_column 16 = .ok (.bipush 20, 2) := by decide +kernel
theorem d_Mo_column_18 : decode b_Mo_column 18 = .ok (.invokestatic 60, 3) := by decide +kernel
theorem d_Mo_column_21 : decode b_Mo_column 21 = .ok (.ifCond .eq 7, 3) := by decide +kernel
theorem d_Mo_column_24 : decode b_Mo_column 24 = .ok (.iconst 1, 1) := by decide +kernel
theorem d_Mo_column_25 : decode b_Mo_column 25 = .ok (.goto 4, 3) := by decide +kernel
theorem d_Mo_column_28 : decode b_Mo_column 28 = .ok (.iconst 0, 1) := by decide +kernel
theorem d_Mo_column_29 : decode b_Mo_column 29 = .ok (.aload_n 0, 1) := by decide +kernel
theorem d_Mo_column_30 : decode b_Mo_column 30 = .ok (.getfield 57, 3) := by decide +kernel
theorem d_Mo_column_33 : decode b_Mo_column 33 = .ok (.iconst 5, 1) := by decide +kernel
theorem d_Mo_column_34 : decode b_Mo_column 34 = .ok (.if_icmp .ge 7, 3) := by decide +kernel
theorem d_Mo_column_37 : decode b_Mo_column 37 = .ok (.iconst 1, 1) := by decide +kernel
theorem d_Mo_column_38 : decode b_Mo_column 38 = .ok (.goto 4, 3) := by decide +kernel
theorem d_Mo_column_41 : decode b_Mo_column 41 = .ok (.iconst 0, 1) := by decide +kernel
theorem d_Mo_column_42 : decode b_Mo_column 42 = .ok (.invokevirtual 80, 3) := by decide +kernel
theorem d_Mo_column_45 : decode b_Mo_column 45 = .ok (.ifCond .ne 5, 3) := by decide +kernel
theorem d_Mo_column_48 : decode b_Mo_column 48 = .ok (.iconst 0, 1) := by decide +kernel
theorem d_Mo_column_49 : decode b_Mo_column 49 = .ok (.ireturn, 1) := by decide +kernel
theorem d_Mo_column_50 : decode b_Mo_column 50 = .ok (.aload_n 0, 1) := by decide +kernel
theorem d_Mo_column_51 : decode b_Mo_column 51 = .ok (.getfield 7, 3) := by decide +kernel
theorem d_Mo_column_54 : decode b_Mo_column 54 = .ok (.aload_n 0, 1) := by decide +kernel
theorem d_Mo_column_55 : decode b_Mo_column 55 = .ok (.getfield 57, 3) := by decide +kernel
theorem d_Mo_column_58 : decode b_Mo_column 58 = .ok (.iload_n 1, 1) := by decide +kernel
theorem d_Mo_column_59 : decode b_Mo_column 59 = .ok (.iastore, 1) := by decide +kernel
theorem d_Mo_column_60 : decode b_Mo_column 60 = .ok (.aload_n 0, 1) := by decide +kernel
theorem d_Mo_column_61 : decode b_Mo_column 61 = .ok (.getfield 13, 3) := by decide +kernel
theorem d_Mo_column_64 : decode b_Mo_column 64 = .ok (.aload_n 0, 1) := by decide +kernel
theorem d_Mo_column_65 : decode b_Mo_column 65 = .ok (.getfield 57, 3) := by decide +kernel
theorem d_Mo_column_68 : decode b_Mo_column 68 = .ok (.iload_n 2, 1) := by decide +kernel
theorem d_Mo_column_69 : decode b_Mo_column 69 = .ok (.iastore, 1) := by decide +kernel
theorem d_Mo_column_70 : decode b_Mo_column 70 = .ok (.aload_n 0, 1) := by decide +kernel
theorem d_Mo_column_71 : decode b_Mo_column 71 = .ok (.dup, 1) := by decide +kernel
theorem d_Mo_column_72 : decode b_Mo_column 72 = .ok (.getfield 57, 3) := by decide +kernel
theorem d_Mo_column_75 : decode b_Mo_column 75 = .ok (.iconst 1, 1) := by decide +kernel
theorem d_Mo_column_76 : decode b_Mo_column 76 = .ok (.iadd, 1) := by decide +kernel
theorem d_Mo_column_77 : decode b_Mo_column 77 = .ok (.putfield 57, 3) := by decide +kernel
theorem d_Mo_column_80 : decode b_Mo_column 80 = .ok (.aload_n 0, 1) := by decide +kernel
theorem d_Mo_column_81 : decode b_Mo_column 81 = .ok (.invokevirtual 84, 3) := by decide +kernel
theorem d_Mo_column_84 : decode b_Mo_column 84 = .ok (.aload_n 0, 1) := by decide +kernel
theorem d_Mo_column_85 : decode b_Mo_column 85 = .ok (.getfield 57, 3) := by decide +kernel
theorem d_Mo_column_88 : decode b_Mo_column 88 = .ok (.iconst 1, 1) := by decide +kernel
theorem d_Mo_column_89 : decode b_Mo_column 89 = .ok (.isub, 1) := by decide +kernel
theorem d_Mo_column_90 : decode b_Mo_column 90 = .ok (.ireturn, 1) := by decide +kernel
abbrev b_Mo_row : ByteArray := prog_8_method_10_code
def y_Mo_row : MethodName := ⟨RMo, "row", "(II)I"⟩
theorem k_Mo_row : Cond.code y_Mo_row b_Mo_row 3 (some .int) ∈ tt := (tt4 1 rfl rfl)
theorem i_Mo_row : Cond.instanceMethod y_Mo_row ∈ tt := (tt3 239 rfl rfl)
theorem l_Mo_row : Cond.selects RMo y_Mo_row y_Mo_row ∈ tt := (tt4 0 rfl rfl)
theorem d_Mo_row_0 : decode b_Mo_row 0 = .ok (.aload_n 0, 1) := by decide +kernel
theorem d_Mo_row_1 : decode b_Mo_row 1 = .ok (.iload_n 1, 1) := by decide +kernel
theorem d_Mo_row_2 : decode b_Mo_row 2 = .ok (.iconst 0, 1) := by decide +kernel
theorem d_Mo_row_3 : decode b_Mo_row 3 = .ok (.iconst 1, 1) := by decide +kernel
theorem d_Mo_row_4 : decode b_Mo_row 4 = .ok (.invokestatic 60, 3) := by decide +kernel
theorem d_Mo_row_7 : decode b_Mo_row 7 = .ok (.ifCond .eq 20, 3) := by decide +kernel
theorem d_Mo_row_10 : decode b_Mo_row 10 = .ok (.iload_n 2, 1) := by decide +kernel
theorem d_Mo_row_11 : decode b_Mo_row 11 = .ok (.sipush (-10000), 3) := by decide +kernel
theorem d_Mo_row_14 : decode b_Mo_row 14 = .ok (.sipush 10000, 3) := by decide +kernel
theorem d_Mo_row_17 : decode b_Mo_row 17 = .ok (.invokestatic 60, 3) := by decide +kernel
theorem d_Mo_row_20 : decode b_Mo_row 20 = .ok (.ifCond .eq 7, 3) := by decide +kernel
theorem d_Mo_row_23 : decode b_Mo_row 23 = .ok (.iconst 1, 1) := by decide +kernel
theorem d_Mo_row_24 : decode b_Mo_row 24 = .ok (.goto 4, 3) := by decide +kernel
theorem d_Mo_row_27 : decode b_Mo_row 27 = .ok (.iconst 0, 1) := by decide +kernel
theorem d_Mo_row_28 : decode b_Mo_row 28 = .ok (.aload_n 0, 1) := by decide +kernel
theorem d_Mo_row_29 : decode b_Mo_row 29 = .ok (.getfield 64, 3) := by decide +kernel
theorem d_Mo_row_32 : decode b_Mo_row 32 = .ok (.iconst 4, 1) := by decide +kernel
theorem d_Mo_row_33 : decode b_Mo_row 33 = .ok (.if_icmp .ge 7, 3) := by decide +kernel
theorem d_Mo_row_36 : decode b_Mo_row 36 = .ok (.iconst 1, 1) := by decide +kernel
theorem d_Mo_row_37 : decode b_Mo_row 37 = .ok (.goto 4, 3) := by decide +kernel
theorem d_Mo_row_40 : decode b_Mo_row 40 = .ok (.iconst 0, 1) := by decide +kernel
theorem d_Mo_row_41 : decode b_Mo_row 41 = .ok (.invokevirtual 80, 3) := by decide +kernel
theorem d_Mo_row_44 : decode b_Mo_row 44 = .ok (.ifCond .ne 5, 3) := by decide +kernel
theorem d_Mo_row_47 : decode b_Mo_row 47 = .ok (.iconst 0, 1) := by decide +kernel
theorem d_Mo_row_48 : decode b_Mo_row 48 = .ok (.ireturn, 1) := by decide +kernel
theorem d_Mo_row_49 : decode b_Mo_row 49 = .ok (.aload_n 0, 1) := by decide +kernel
theorem d_Mo_row_50 : decode b_Mo_row 50 = .ok (.getfield 16, 3) := by decide +kernel
theorem d_Mo_row_53 : decode b_Mo_row 53 = .ok (.aload_n 0, 1) := by decide +kernel
theorem d_Mo_row_54 : decode b_Mo_row 54 = .ok (.getfield 64, 3) := by decide +kernel
theorem d_Mo_row_57 : decode b_Mo_row 57 = .ok (.iload_n 1, 1) := by decide +kernel
theorem d_Mo_row_58 : decode b_Mo_row 58 = .ok (.iastore, 1) := by decide +kernel
theorem d_Mo_row_59 : decode b_Mo_row 59 = .ok (.aload_n 0, 1) := by decide +kernel
theorem d_Mo_row_60 : decode b_Mo_row 60 = .ok (.getfield 19, 3) := by decide +kernel
theorem d_Mo_row_63 : decode b_Mo_row 63 = .ok (.aload_n 0, 1) := by decide +kernel
theorem d_Mo_row_64 : decode b_Mo_row 64 = .ok (.getfield 64, 3) := by decide +kernel
theorem d_Mo_row_67 : decode b_Mo_row 67 = .ok (.iload_n 2, 1) := by decide +kernel
theorem d_Mo_row_68 : decode b_Mo_row 68 = .ok (.iastore, 1) := by decide +kernel
theorem d_Mo_row_69 : decode b_Mo_row 69 = .ok (.aload_n 0, 1) := by decide +kernel
theorem d_Mo_row_70 : decode b_Mo_row 70 = .ok (.dup, 1) := by decide +kernel
theorem d_Mo_row_71 : decode b_Mo_row 71 = .ok (.getfield 64, 3) := by decide +kernel
theorem d_Mo_row_74 : decode b_Mo_row 74 = .ok (.iconst 1, 1) := by decide +kernel
theorem d_Mo_row_75 : decode b_Mo_row 75 = .ok (.iadd, 1) := by decide +kernel
theorem d_Mo_row_76 : decode b_Mo_row 76 = .ok (.putfield 64, 3) := by decide +kernel
theorem d_Mo_row_79 : decode b_Mo_row 79 = .ok (.aload_n 0, 1) := by decide +kernel
theorem d_Mo_row_80 : decode b_Mo_row 80 = .ok (.invokevirtual 87, 3) := by decide +kernel
theorem d_Mo_row_83 : decode b_Mo_row 83 = .ok (.aload_n 0, 1) := by decide +kernel
theorem d_Mo_row_84 : decode b_Mo_row 84 = .ok (.invokevirtual 84, 3) := by decide +kernel
theorem d_Mo_row_87 : decode b_Mo_row 87 = .ok (.aload_n 0, 1) := by decide +kernel
theorem d_Mo_row_88 : decode b_Mo_row 88 = .ok (.getfield 64, 3) := by decide +kernel
theorem d_Mo_row_91 : decode b_Mo_row 91 = .ok (.iconst 1, 1) := by decide +kernel
theorem d_Mo_row_92 : decode b_Mo_row 92 = .ok (.isub, 1) := by decide +kernel
theorem d_Mo_row_93 : decode b_Mo_row 93 = .ok (.ireturn, 1) := by decide +kernel
abbrev b_Mo_factor : ByteArray := prog_8_method_11_code
def y_Mo_factor : MethodName := ⟨RMo, "factor", "(III)V"⟩
theorem k_Mo_factor : Cond.code y_Mo_factor b_Mo_factor 4 none ∈ tt := (tt4 9 rfl rfl)
theorem i_Mo_factor : Cond.instanceMethod y_Mo_factor ∈ tt := (tt4 7 rfl rfl)
theorem l_Mo_factor : Cond.selects RMo y_Mo_factor y_Mo_factor ∈ tt := (tt4 8 rfl rfl)
theorem d_Mo_factor_0 : decode b_Mo_factor 0 = .ok (.aload_n 0, 1) := by decide +kernel
theorem d_Mo_factor_1 : decode b_Mo_factor 1 = .ok (.aload_n 0, 1) := by decide +kernel
theorem d_Mo_factor_2 : decode b_Mo_factor 2 = .ok (.iload_n 1, 1) := by decide +kernel
theorem d_Mo_factor_3 : decode b_Mo_factor 3 = .ok (.invokevirtual 90, 3) := by decide +kernel
theorem d_Mo_factor_6 : decode b_Mo_factor 6 = .ok (.ifCond .eq 15, 3) := by decide +kernel
theorem d_Mo_factor_9 : decode b_Mo_factor 9 = .ok (.aload_n 0, 1) := by decide +kernel
theorem d_Mo_factor_10 : decode b_Mo_factor 10 = .ok (.iload_n 2, 1) := by decide +kernel
theorem d_Mo_factor_11 : decode b_Mo_factor 11 = .ok (.invokevirtual 94, 3) := by decide +kernel
theorem d_Mo_factor_14 : decode b_Mo_factor 14 = .ok (.ifCond .eq 7, 3) := by decide +kernel
theorem d_Mo_factor_17 : decode b_Mo_factor 17 = .ok (.iconst 1, 1) := by decide +kernel
theorem d_Mo_factor_18 : decode b_Mo_factor 18 = .ok (.goto 4, 3) := by decide +kernel
theorem d_Mo_factor_21 : decode b_Mo_factor 21 = .ok (.iconst 0, 1) := by decide +kernel
theorem d_Mo_factor_22 : decode b_Mo_factor 22 = .ok (.iload_n 3, 1) := by decide +kernel
theorem d_Mo_factor_23 : decode b_Mo_factor 23 = .ok (.bipush (-10), 2) := by decide +kernel
theorem d_Mo_factor_25 : decode b_Mo_factor 25 = .ok (.bipush 10, 2) := by decide +kernel
theorem d_Mo_factor_27 : decode b_Mo_factor 27 = .ok (.invokestatic 60, 3) := by decide +kernel
theorem d_Mo_factor_30 : decode b_Mo_factor 30 = .ok (.invokevirtual 80, 3) := by decide +kernel
theorem d_Mo_factor_33 : decode b_Mo_factor 33 = .ok (.ifCond .ne 4, 3) := by decide +kernel
theorem d_Mo_factor_36 : decode b_Mo_factor 36 = .ok (.return_, 1) := by decide +kernel
theorem d_Mo_factor_37 : decode b_Mo_factor 37 = .ok (.aload_n 0, 1) := by decide +kernel
theorem d_Mo_factor_38 : decode b_Mo_factor 38 = .ok (.getfield 22, 3) := by decide +kernel
theorem d_Mo_factor_41 : decode b_Mo_factor 41 = .ok (.iconst 5, 1) := by decide +kernel
theorem d_Mo_factor_42 : decode b_Mo_factor 42 = .ok (.iload_n 1, 1) := by decide +kernel
theorem d_Mo_factor_43 : decode b_Mo_factor 43 = .ok (.imul, 1) := by decide +kernel
theorem d_Mo_factor_44 : decode b_Mo_factor 44 = .ok (.iload_n 2, 1) := by decide +kernel
theorem d_Mo_factor_45 : decode b_Mo_factor 45 = .ok (.iadd, 1) := by decide +kernel
theorem d_Mo_factor_46 : decode b_Mo_factor 46 = .ok (.iload_n 3, 1) := by decide +kernel
theorem d_Mo_factor_47 : decode b_Mo_factor 47 = .ok (.iastore, 1) := by decide +kernel
theorem d_Mo_factor_48 : decode b_Mo_factor 48 = .ok (.aload_n 0, 1) := by decide +kernel
theorem d_Mo_factor_49 : decode b_Mo_factor 49 = .ok (.invokevirtual 84, 3) := by decide +kernel
theorem d_Mo_factor_52 : decode b_Mo_factor 52 = .ok (.return_, 1) := by decide +kernel
abbrev b_Mo_right : ByteArray := prog_8_method_12_code
def y_Mo_right : MethodName := ⟨RMo, "right", "(II)V"⟩
theorem k_Mo_right : Cond.code y_Mo_right b_Mo_right 3 none ∈ tt := (tt4 21 rfl rfl)
theorem i_Mo_right : Cond.instanceMethod y_Mo_right ∈ tt := (tt4 19 rfl rfl)
theorem l_Mo_right : Cond.selects RMo y_Mo_right y_Mo_right ∈ tt := (tt4 20 rfl rfl)
theorem d_Mo_right_0 : decode b_Mo_right 0 = .ok (.aload_n 0, 1) := by decide +kernel
theorem d_Mo_right_1 : decode b_Mo_right 1 = .ok (.aload_n 0, 1) := by decide +kernel
theorem d_Mo_right_2 : decode b_Mo_right 2 = .ok (.iload_n 1, 1) := by decide +kernel
theorem d_Mo_right_3 : decode b_Mo_right 3 = .ok (.invokevirtual 90, 3) := by decide +kernel
theorem d_Mo_right_6 : decode b_Mo_right 6 = .ok (.iload_n 2, 1) := by decide +kernel
theorem d_Mo_right_7 : decode b_Mo_right 7 = .ok (.sipush (-10000), 3) := by decide +kernel
theorem d_Mo_right_10 : decode b_Mo_right 10 = .ok (.sipush 10000, 3) := by decide +kernel
theorem d_Mo_right_13 : decode b_Mo_right 13 = .ok (.invokestatic 60, 3) := by decide +kernel
theorem d_Mo_right_16 : decode b_Mo_right 16 = .ok (.invokevirtual 80, 3) := by decide +kernel
theorem d_Mo_right_19 : decode b_Mo_right 19 = .ok (.ifCond .ne 4, 3) := by decide +kernel
theorem d_Mo_right_22 : decode b_Mo_right 22 = .ok (.return_, 1) := by decide +kernel
theorem d_Mo_right_23 : decode b_Mo_right 23 = .ok (.aload_n 0, 1) := by decide +kernel
theorem d_Mo_right_24 : decode b_Mo_right 24 = .ok (.getfield 19, 3) := by decide +kernel
theorem d_Mo_right_27 : decode b_Mo_right 27 = .ok (.iload_n 1, 1) := by decide +kernel
theorem d_Mo_right_28 : decode b_Mo_right 28 = .ok (.iload_n 2, 1) := by decide +kernel
theorem d_Mo_right_29 : decode b_Mo_right 29 = .ok (.iastore, 1) := by decide +kernel
theorem d_Mo_right_30 : decode b_Mo_right 30 = .ok (.aload_n 0, 1) := by decide +kernel
theorem d_Mo_right_31 : decode b_Mo_right 31 = .ok (.invokevirtual 84, 3) := by decide +kernel
theorem d_Mo_right_34 : decode b_Mo_right 34 = .ok (.return_, 1) := by decide +kernel
abbrev b_Mo_cut : ByteArray := prog_8_method_13_code
def y_Mo_cut : MethodName := ⟨RMo, "cut", "(II)I"⟩
theorem k_Mo_cut : Cond.code y_Mo_cut b_Mo_cut 5 (some .int) ∈ tt := (tt4 25 rfl rfl)
theorem i_Mo_cut : Cond.instanceMethod y_Mo_cut ∈ tt := (tt4 23 rfl rfl)
theorem l_Mo_cut : Cond.selects RMo y_Mo_cut y_Mo_cut ∈ tt := (tt4 24 rfl rfl)
theorem d_Mo_cut_0 : decode b_Mo_cut 0 = .ok (.aload_n 0, 1) := by decide +kernel
theorem d_Mo_cut_1 : decode b_Mo_cut 1 = .ok (.getfield 97, 3) := by decide +kernel
theorem d_Mo_cut_4 : decode b_Mo_cut 4 = .ok (.iconst 4, 1) := by decide +kernel
theorem d_Mo_cut_5 : decode b_Mo_cut 5 = .ok (.if_icmp .ge 7, 3) := by decide +kernel
theorem d_Mo_cut_8 : decode b_Mo_cut 8 = .ok (.iconst 1, 1) := by decide +kernel
theorem d_Mo_cut_9 : decode b_Mo_cut 9 = .ok (.goto 4, 3) := by decide +kernel
theorem d_Mo_cut_12 : decode b_Mo_cut 12 = .ok (.iconst 0, 1) := by decide +kernel
theorem d_Mo_cut_13 : decode b_Mo_cut 13 = .ok (.istore_n 3, 1) := by decide +kernel
theorem d_Mo_cut_14 : decode b_Mo_cut 14 = .ok (.iconst 0, 1) := by decide +kernel
theorem d_Mo_cut_15 : decode b_Mo_cut 15 = .ok (.istore 4, 2) := by decide +kernel
theorem d_Mo_cut_17 : decode b_Mo_cut 17 = .ok (.iload 4, 2) := by decide +kernel
theorem d_Mo_cut_19 : decode b_Mo_cut 19 = .ok (.aload_n 0, 1) := by decide +kernel
theorem d_Mo_cut_20 : decode b_Mo_cut 20 = .ok (.getfield 97, 3) := by decide +kernel
theorem d_Mo_cut_23 : decode b_Mo_cut 23 = .ok (.if_icmp .ge 55, 3) := by decide +kernel
theorem d_Mo_cut_26 : decode b_Mo_cut 26 = .ok (.aload_n 0, 1) := by decide +kernel
theorem d_Mo_cut_27 : decode b_Mo_cut 27 = .ok (.getfield 25, 3) := by decide +kernel
theorem d_Mo_cut_30 : decode b_Mo_cut 30 = .ok (.iload 4, 2) := by decide +kernel
theorem d_Mo_cut_32 : decode b_Mo_cut 32 = .ok (.iaload, 1) := by decide +kernel
theorem d_Mo_cut_33 : decode b_Mo_cut 33 = .ok (.iload_n 1, 1) := by decide +kernel
theorem d_Mo_cut_34 : decode b_Mo_cut 34 = .ok (.if_icmp .ne 14, 3) := by decide +kernel
theorem d_Mo_cut_37 : decode b_Mo_cut 37 = .ok (.aload_n 0, 1) := by decide +kernel
theorem d_Mo_cut_38 : decode b_Mo_cut 38 = .ok (.getfield 28, 3) := by decide +kernel
theorem d_Mo_cut_41 : decode b_Mo_cut 41 = .ok (.iload 4, 2) := by decide +kernel
theorem d_Mo_cut_43 : decode b_Mo_cut 43 = .ok (.iaload, 1) := by decide +kernel
theorem d_Mo_cut_44 : decode b_Mo_cut 44 = .ok (.iload_n 2, 1) := by decide +kernel
theorem d_Mo_cut_45 : decode b_Mo_cut 45 = .ok (.if_icmp .eq 25, 3) := by decide +kernel
theorem d_Mo_cut_48 : decode b_Mo_cut 48 = .ok (.aload_n 0, 1) := by decide +kernel
theorem d_Mo_cut_49 : decode b_Mo_cut 49 = .ok (.getfield 25, 3) := by decide +kernel
theorem d_Mo_cut_52 : decode b_Mo_cut 52 = .ok (.iload 4, 2) := by decide +kernel
theorem d_Mo_cut_54 : decode b_Mo_cut 54 = .ok (.iaload, 1) := by decide +kernel
theorem d_Mo_cut_55 : decode b_Mo_cut 55 = .ok (.iload_n 2, 1) := by decide +kernel
theorem d_Mo_cut_56 : decode b_Mo_cut 56 = .ok (.if_icmp .ne 16, 3) := by decide +kernel
theorem d_Mo_cut_59 : decode b_Mo_cut 59 = .ok (.aload_n 0, 1) := by decide +kernel
theorem d_Mo_cut_60 : decode b_Mo_cut 60 = .ok (.getfield 28, 3) := by decide +kernel
theorem d_Mo_cut_63 : decode b_Mo_cut 63 = .ok (.iload 4, 2) := by decide +kernel
theorem d_Mo_cut_65 : decode b_Mo_cut 65 = .ok (.iaload, 1) := by decide +kernel
theorem d_Mo_cut_66 : decode b_Mo_cut 66 = .ok (.iload_n 1, 1) := by decide +kernel
theorem d_Mo_cut_67 : decode b_Mo_cut 67 = .ok (.if_icmp .ne 5, 3) := by decide +kernel
theorem d_Mo_cut_70 : decode b_Mo_cut 70 = .ok (.iconst 0, 1) := by decide +kernel
theorem d_Mo_cut_71 : decode b_Mo_cut 71 = .ok (.istore_n 3, 1) := by decide +kernel
theorem d_Mo_cut_72 : decode b_Mo_cut 72 = .ok (.iinc 4 1, 3) := by decide +kernel
theorem d_Mo_cut_75 : decode b_Mo_cut 75 = .ok (.goto (-58), 3) := by decide +kernel
theorem d_Mo_cut_78 : decode b_Mo_cut 78 = .ok (.aload_n 0, 1) := by decide +kernel
theorem d_Mo_cut_79 : decode b_Mo_cut 79 = .ok (.aload_n 0, 1) := by decide +kernel
theorem d_Mo_cut_80 : decode b_Mo_cut 80 = .ok (.iload_n 1, 1) := by decide +kernel
theorem d_Mo_cut_81 : decode b_Mo_cut 81 = .ok (.invokevirtual 94, 3) := by decide +kernel
theorem d_Mo_cut_84 : decode b_Mo_cut 84 = .ok (.ifCond .eq 20, 3) := by decide +kernel
theorem d_Mo_cut_87 : decode b_Mo_cut 87 = .ok (.aload_n 0, 1) := by decide +kernel
theorem d_Mo_cut_88 : decode b_Mo_cut 88 = .ok (.iload_n 2, 1) := by decide +kernel
theorem d_Mo_cut_89 : decode b_Mo_cut 89 = .ok (.invokevirtual 94, 3) := by decide +kernel
theorem d_Mo_cut_92 : decode b_Mo_cut 92 = .ok (.ifCond .eq 12, 3) := by decide +kernel
theorem d_Mo_cut_95 : decode b_Mo_cut 95 = .ok (.iload_n 1, 1) := by decide +kernel
theorem d_Mo_cut_96 : decode b_Mo_cut 96 = .ok (.iload_n 2, 1) := by decide +kernel
theorem d_Mo_cut_97 : decode b_Mo_cut 97 = .ok (.if_icmp .eq 7, 3) := by decide +kernel
theorem d_Mo_cut_100 : decode b_Mo_cut 100 = .ok (.iconst 1, 1) := by decide +kernel
theorem d_Mo_cut_101 : decode b_Mo_cut 101 = .ok (.goto 4, 3) := by decide +kernel
theorem d_Mo_cut_104 : decode b_Mo_cut 104 = .ok (.iconst 0, 1) := by decide +kernel
theorem d_Mo_cut_105 : decode b_Mo_cut 105 = .ok (.iload_n 3, 1) := by decide +kernel
theorem d_Mo_cut_106 : decode b_Mo_cut 106 = .ok (.invokevirtual 80, 3) := by decide +kernel
theorem d_Mo_cut_109 : decode b_Mo_cut 109 = .ok (.ifCond .ne 5, 3) := by decide +kernel
theorem d_Mo_cut_112 : decode b_Mo_cut 112 = .ok (.iconst 0, 1) := by decide +kernel
theorem d_Mo_cut_113 : decode b_Mo_cut 113 = .ok (.ireturn, 1) := by decide +kernel
theorem d_Mo_cut_114 : decode b_Mo_cut 114 = .ok (.aload_n 0, 1) := by decide +kernel
theorem d_Mo_cut_115 : decode b_Mo_cut 115 = .ok (.getfield 25, 3) := by decide +kernel
theorem d_Mo_cut_118 : decode b_Mo_cut 118 = .ok (.aload_n 0, 1) := by decide +kernel
theorem d_Mo_cut_119 : decode b_Mo_cut 119 = .ok (.getfield 97, 3) := by decide +kernel
theorem d_Mo_cut_122 : decode b_Mo_cut 122 = .ok (.iload_n 1, 1) := by decide +kernel
theorem d_Mo_cut_123 : decode b_Mo_cut 123 = .ok (.iastore, 1) := by decide +kernel
theorem d_Mo_cut_124 : decode b_Mo_cut 124 = .ok (.aload_n 0, 1) := by decide +kernel
theorem d_Mo_cut_125 : decode b_Mo_cut 125 = .ok (.getfield 28, 3) := by decide +kernel
theorem d_Mo_cut_128 : decode b_Mo_cut 128 = .ok (.aload_n 0, 1) := by decide +kernel
theorem d_Mo_cut_129 : decode b_Mo_cut 129 = .ok (.getfield 97, 3) := by decide +kernel
theorem d_Mo_cut_132 : decode b_Mo_cut 132 = .ok (.iload_n 2, 1) := by decide +kernel
theorem d_Mo_cut_133 : decode b_Mo_cut 133 = .ok (.iastore, 1) := by decide +kernel
theorem d_Mo_cut_134 : decode b_Mo_cut 134 = .ok (.aload_n 0, 1) := by decide +kernel
theorem d_Mo_cut_135 : decode b_Mo_cut 135 = .ok (.dup, 1) := by decide +kernel
theorem d_Mo_cut_136 : decode b_Mo_cut 136 = .ok (.getfield 97, 3) := by decide +kernel
theorem d_Mo_cut_139 : decode b_Mo_cut 139 = .ok (.iconst 1, 1) := by decide +kernel
theorem d_Mo_cut_140 : decode b_Mo_cut 140 = .ok (.iadd, 1) := by decide +kernel
theorem d_Mo_cut_141 : decode b_Mo_cut 141 = .ok (.putfield 97, 3) := by decide +kernel
theorem d_Mo_cut_144 : decode b_Mo_cut 144 = .ok (.aload_n 0, 1) := by decide +kernel
theorem d_Mo_cut_145 : decode b_Mo_cut 145 = .ok (.invokevirtual 87, 3) := by decide +kernel
theorem d_Mo_cut_148 : decode b_Mo_cut 148 = .ok (.aload_n 0, 1) := by decide +kernel
theorem d_Mo_cut_149 : decode b_Mo_cut 149 = .ok (.invokevirtual 84, 3) := by decide +kernel
theorem d_Mo_cut_152 : decode b_Mo_cut 152 = .ok (.aload_n 0, 1) := by decide +kernel
theorem d_Mo_cut_153 : decode b_Mo_cut 153 = .ok (.getfield 97, 3) := by decide +kernel
theorem d_Mo_cut_156 : decode b_Mo_cut 156 = .ok (.ireturn, 1) := by decide +kernel
abbrev b_Mo_kindOf : ByteArray := prog_8_method_14_code
def y_Mo_kindOf : MethodName := ⟨RMo, "kindOf", "(I)I"⟩
theorem k_Mo_kindOf : Cond.code y_Mo_kindOf b_Mo_kindOf 2 (some .int) ∈ tt := (tt4 50 rfl rfl)
theorem i_Mo_kindOf : Cond.instanceMethod y_Mo_kindOf ∈ tt := (tt4 49 rfl rfl)
theorem l_Mo_kindOf : Cond.selects RMo y_Mo_kindOf y_Mo_kindOf ∈ tt := (tt0 21 rfl rfl)
theorem d_Mo_kindOf_0 : decode b_Mo_kindOf 0 = .ok (.iload_n 1, 1) := by decide +kernel
theorem d_Mo_kindOf_1 : decode b_Mo_kindOf 1 = .ok (.aload_n 0, 1) := by decide +kernel
theorem d_Mo_kindOf_2 : decode b_Mo_kindOf 2 = .ok (.getfield 64, 3) := by decide +kernel
theorem d_Mo_kindOf_5 : decode b_Mo_kindOf 5 = .ok (.if_icmp .ge 12, 3) := by decide +kernel
theorem d_Mo_kindOf_8 : decode b_Mo_kindOf 8 = .ok (.aload_n 0, 1) := by decide +kernel
theorem d_Mo_kindOf_9 : decode b_Mo_kindOf 9 = .ok (.getfield 16, 3) := by decide +kernel
theorem d_Mo_kindOf_12 : decode b_Mo_kindOf 12 = .ok (.iload_n 1, 1) := by decide +kernel
theorem d_Mo_kindOf_13 : decode b_Mo_kindOf 13 = .ok (.iaload, 1) := by decide +kernel
theorem d_Mo_kindOf_14 : decode b_Mo_kindOf 14 = .ok (.goto 4, 3) := by decide +kernel
theorem d_Mo_kindOf_17 : decode b_Mo_kindOf 17 = .ok (.iconst 0, 1) := by decide +kernel
theorem d_Mo_kindOf_18 : decode b_Mo_kindOf 18 = .ok (.ireturn, 1) := by decide +kernel
abbrev b_Mo_rightOf : ByteArray := prog_8_method_15_code
def y_Mo_rightOf : MethodName := ⟨RMo, "rightOf", "(I)I"⟩
theorem k_Mo_rightOf : Cond.code y_Mo_rightOf b_Mo_rightOf 4 (some .int) ∈ tt := (tt4 54 rfl rfl)
theorem i_Mo_rightOf : Cond.instanceMethod y_Mo_rightOf ∈ tt := (tt4 53 rfl rfl)
theorem l_Mo_rightOf : Cond.selects RMo y_Mo_rightOf y_Mo_rightOf ∈ tt := (tt0 22 rfl rfl)
theorem d_Mo_rightOf_0 : decode b_Mo_rightOf 0 = .ok (.iload_n 1, 1) := by decide +kernel
theorem d_Mo_rightOf_1 : decode b_Mo_rightOf 1 = .ok (.aload_n 0, 1) := by decide +kernel
theorem d_Mo_rightOf_2 : decode b_Mo_rightOf 2 = .ok (.getfield 64, 3) := by decide +kernel
theorem d_Mo_rightOf_5 : decode b_Mo_rightOf 5 = .ok (.if_icmp .ge 10, 3) := by decide +kernel
theorem d_Mo_rightOf_8 : decode b_Mo_rightOf 8 = .ok (.aload_n 0, 1) := by decide +kernel
theorem d_Mo_rightOf_9 : decode b_Mo_rightOf 9 = .ok (.getfield 19, 3) := by decide +kernel
theorem d_Mo_rightOf_12 : decode b_Mo_rightOf 12 = .ok (.iload_n 1, 1) := by decide +kernel
theorem d_Mo_rightOf_13 : decode b_Mo_rightOf 13 = .ok (.iaload, 1) := by decide +kernel
theorem d_Mo_rightOf_14 : decode b_Mo_rightOf 14 = .ok (.ireturn, 1) := by decide +kernel
theorem d_Mo_rightOf_15 : decode b_Mo_rightOf 15 = .ok (.aload_n 0, 1) := by decide +kernel
theorem d_Mo_rightOf_16 : decode b_Mo_rightOf 16 = .ok (.getfield 13, 3) := by decide +kernel
theorem d_Mo_rightOf_19 : decode b_Mo_rightOf 19 = .ok (.aload_n 0, 1) := by decide +kernel
theorem d_Mo_rightOf_20 : decode b_Mo_rightOf 20 = .ok (.getfield 25, 3) := by decide +kernel
theorem d_Mo_rightOf_23 : decode b_Mo_rightOf 23 = .ok (.iload_n 1, 1) := by decide +kernel
theorem d_Mo_rightOf_24 : decode b_Mo_rightOf 24 = .ok (.aload_n 0, 1) := by decide +kernel
theorem d_Mo_rightOf_25 : decode b_Mo_rightOf 25 = .ok (.getfield 64, 3) := by decide +kernel
theorem d_Mo_rightOf_28 : decode b_Mo_rightOf 28 = .ok (.isub, 1) := by decide +kernel
theorem d_Mo_rightOf_29 : decode b_Mo_rightOf 29 = .ok (.iaload, 1) := by decide +kernel
theorem d_Mo_rightOf_30 : decode b_Mo_rightOf 30 = .ok (.iaload, 1) := by decide +kernel
theorem d_Mo_rightOf_31 : decode b_Mo_rightOf 31 = .ok (.istore_n 2, 1) := by decide +kernel
theorem d_Mo_rightOf_32 : decode b_Mo_rightOf 32 = .ok (.aload_n 0, 1) := by decide +kernel
theorem d_Mo_rightOf_33 : decode b_Mo_rightOf 33 = .ok (.getfield 13, 3) := by decide +kernel
theorem d_Mo_rightOf_36 : decode b_Mo_rightOf 36 = .ok (.aload_n 0, 1) := by decide +kernel
theorem d_Mo_rightOf_37 : decode b_Mo_rightOf 37 = .ok (.getfield 28, 3) := by decide +kernel
theorem d_Mo_rightOf_40 : decode b_Mo_rightOf 40 = .ok (.iload_n 1, 1) := by decide +kernel
theorem d_Mo_rightOf_41 : decode b_Mo_rightOf 41 = .ok (.aload_n 0, 1) := by decide +kernel
theorem d_Mo_rightOf_42 : decode b_Mo_rightOf 42 = .ok (.getfield 64, 3) := by decide +kernel
theorem d_Mo_rightOf_45 : decode b_Mo_rightOf 45 = .ok (.isub, 1) := by decide +kernel
theorem d_Mo_rightOf_46 : decode b_Mo_rightOf 46 = .ok (.iaload, 1) := by decide +kernel
theorem d_Mo_rightOf_47 : decode b_Mo_rightOf 47 = .ok (.iaload, 1) := by decide +kernel
theorem d_Mo_rightOf_48 : decode b_Mo_rightOf 48 = .ok (.istore_n 3, 1) := by decide +kernel
theorem d_Mo_rightOf_49 : decode b_Mo_rightOf 49 = .ok (.iload_n 2, 1) := by decide +kernel
theorem d_Mo_rightOf_50 : decode b_Mo_rightOf 50 = .ok (.iload_n 3, 1) := by decide +kernel
theorem d_Mo_rightOf_51 : decode b_Mo_rightOf 51 = .ok (.if_icmp .le 7, 3) := by decide +kernel
theorem d_Mo_rightOf_54 : decode b_Mo_rightOf 54 = .ok (.iload_n 2, 1) := by decide +kernel
theorem d_Mo_rightOf_55 : decode b_Mo_rightOf 55 = .ok (.goto 4, 3) := by decide +kernel
theorem d_Mo_rightOf_58 : decode b_Mo_rightOf 58 = .ok (.iload_n 3, 1) := by decide +kernel
theorem d_Mo_rightOf_59 : decode b_Mo_rightOf 59 = .ok (.ireturn, 1) := by decide +kernel
abbrev b_Mo_factorOf : ByteArray := prog_8_method_16_code
def y_Mo_factorOf : MethodName := ⟨RMo, "factorOf", "(II)I"⟩
theorem k_Mo_factorOf : Cond.code y_Mo_factorOf b_Mo_factorOf 3 (some .int) ∈ tt := (tt4 46 rfl rfl)
theorem i_Mo_factorOf : Cond.instanceMethod y_Mo_factorOf ∈ tt := (tt4 45 rfl rfl)
theorem l_Mo_factorOf : Cond.selects RMo y_Mo_factorOf y_Mo_factorOf ∈ tt := (tt0 20 rfl rfl)
theorem d_Mo_factorOf_0 : decode b_Mo_factorOf 0 = .ok (.iload_n 1, 1) := by decide +kernel
theorem d_Mo_factorOf_1 : decode b_Mo_factorOf 1 = .ok (.aload_n 0, 1) := by decide +kernel
theorem d_Mo_factorOf_2 : decode b_Mo_factorOf 2 = .ok (.getfield 64, 3) := by decide +kernel
theorem d_Mo_factorOf_5 : decode b_Mo_factorOf 5 = .ok (.if_icmp .ge 14, 3) := by decide +kernel
theorem d_Mo_factorOf_8 : decode b_Mo_factorOf 8 = .ok (.aload_n 0, 1) := by decide +kernel
theorem d_Mo_factorOf_9 : decode b_Mo_factorOf 9 = .ok (.getfield 22, 3) := by decide +kernel
theorem d_Mo_factorOf_12 : decode b_Mo_factorOf 12 = .ok (.iconst 5, 1) := by decide +kernel
theorem d_Mo_factorOf_13 : decode b_Mo_factorOf 13 = .ok (.iload_n 1, 1) := by decide +kernel
theorem d_Mo_factorOf_14 : decode b_Mo_factorOf 14 = .ok (.imul, 1) := by decide +kernel
theorem d_Mo_factorOf_15 : decode b_Mo_factorOf 15 = .ok (.iload_n 2, 1) := by decide +kernel
theorem d_Mo_factorOf_16 : decode b_Mo_factorOf 16 = .ok (.iadd, 1) := by decide +kernel
theorem d_Mo_factorOf_17 : decode b_Mo_factorOf 17 = .ok (.iaload, 1) := by decide +kernel
theorem d_Mo_factorOf_18 : decode b_Mo_factorOf 18 = .ok (.ireturn, 1) := by decide +kernel
theorem d_Mo_factorOf_19 : decode b_Mo_factorOf 19 = .ok (.aload_n 0, 1) := by decide +kernel
theorem d_Mo_factorOf_20 : decode b_Mo_factorOf 20 = .ok (.getfield 25, 3) := by decide +kernel
theorem d_Mo_factorOf_23 : decode b_Mo_factorOf 23 = .ok (.iload_n 1, 1) := by decide +kernel
theorem d_Mo_factorOf_24 : decode b_Mo_factorOf 24 = .ok (.aload_n 0, 1) := by decide +kernel
theorem d_Mo_factorOf_25 : decode b_Mo_factorOf 25 = .ok (.getfield 64, 3) := by decide +kernel
theorem d_Mo_factorOf_28 : decode b_Mo_factorOf 28 = .ok (.isub, 1) := by decide +kernel
theorem d_Mo_factorOf_29 : decode b_Mo_factorOf 29 = .ok (.iaload, 1) := by decide +kernel
theorem d_Mo_factorOf_30 : decode b_Mo_factorOf 30 = .ok (.iload_n 2, 1) := by decide +kernel
theorem d_Mo_factorOf_31 : decode b_Mo_factorOf 31 = .ok (.if_icmp .eq 18, 3) := by decide +kernel
theorem d_Mo_factorOf_34 : decode b_Mo_factorOf 34 = .ok (.aload_n 0, 1) := by decide +kernel
theorem d_Mo_factorOf_35 : decode b_Mo_factorOf 35 = .ok (.getfield 28, 3) := by decide +kernel
theorem d_Mo_factorOf_38 : decode b_Mo_factorOf 38 = .ok (.iload_n 1, 1) := by decide +kernel
theorem d_Mo_factorOf_39 : decode b_Mo_factorOf 39 = .ok (.aload_n 0, 1) := by decide +kernel
theorem d_Mo_factorOf_40 : decode b_Mo_factorOf 40 = .ok (.getfield 64, 3) := by decide +kernel
theorem d_Mo_factorOf_43 : decode b_Mo_factorOf 43 = .ok (.isub, 1) := by decide +kernel
theorem d_Mo_factorOf_44 : decode b_Mo_factorOf 44 = .ok (.iaload, 1) := by decide +kernel
theorem d_Mo_factorOf_45 : decode b_Mo_factorOf 45 = .ok (.iload_n 2, 1) := by decide +kernel
theorem d_Mo_factorOf_46 : decode b_Mo_factorOf 46 = .ok (.if_icmp .ne 7, 3) := by decide +kernel
theorem d_Mo_factorOf_49 : decode b_Mo_factorOf 49 = .ok (.iconst 1, 1) := by decide +kernel
theorem d_Mo_factorOf_50 : decode b_Mo_factorOf 50 = .ok (.goto 4, 3) := by decide +kernel
theorem d_Mo_factorOf_53 : decode b_Mo_factorOf 53 = .ok (.iconst 0, 1) := by decide +kernel
theorem d_Mo_factorOf_54 : decode b_Mo_factorOf 54 = .ok (.ireturn, 1) := by decide +kernel
abbrev b_Mo_canHold : ByteArray := prog_8_method_17_code
def y_Mo_canHold : MethodName := ⟨RMo, "canHold", "(I[II)Z"⟩
theorem k_Mo_canHold : Cond.code y_Mo_canHold b_Mo_canHold 7 (some .boolean) ∈ tt := (tt4 42 rfl rfl)
theorem i_Mo_canHold : Cond.instanceMethod y_Mo_canHold ∈ tt := (tt4 41 rfl rfl)
theorem l_Mo_canHold : Cond.selects RMo y_Mo_canHold y_Mo_canHold ∈ tt := (tt0 19 rfl rfl)
theorem d_Mo_canHold_0 : decode b_Mo_canHold 0 = .ok (.iconst 0, 1) := by decide +kernel
theorem d_Mo_canHold_1 : decode b_Mo_canHold 1 = .ok (.istore 4, 2) := by decide +kernel
theorem d_Mo_canHold_3 : decode b_Mo_canHold 3 = .ok (.iconst 0, 1) := by decide +kernel
theorem d_Mo_canHold_4 : decode b_Mo_canHold 4 = .ok (.istore 5, 2) := by decide +kernel
theorem d_Mo_canHold_6 : decode b_Mo_canHold 6 = .ok (.iload 5, 2) := by decide +kernel
theorem d_Mo_canHold_8 : decode b_Mo_canHold 8 = .ok (.iload_n 3, 1) := by decide +kernel
theorem d_Mo_canHold_9 : decode b_Mo_canHold 9 = .ok (.if_icmp .ge 26, 3) := by decide +kernel
theorem d_Mo_canHold_12 : decode b_Mo_canHold 12 = .ok (.iload 4, 2) := by decide +kernel
theorem d_Mo_canHold_14 : decode b_Mo_canHold 14 = .ok (.aload_n 0, 1) := by decide +kernel
theorem d_Mo_canHold_15 : decode b_Mo_canHold 15 = .ok (.iload_n 1, 1) := by decide +kernel
theorem d_Mo_canHold_16 : decode b_Mo_canHold 16 = .ok (.iload 5, 2) := by decide +kernel
theorem d_Mo_canHold_18 : decode b_Mo_canHold 18 = .ok (.invokevirtual 100, 3) := by decide +kernel
theorem d_Mo_canHold_21 : decode b_Mo_canHold 21 = .ok (.aload_n 2, 1) := by decide +kernel
theorem d_Mo_canHold_22 : decode b_Mo_canHold 22 = .ok (.iload 5, 2) := by decide +kernel
theorem d_Mo_canHold_24 : decode b_Mo_canHold 24 = .ok (.iaload, 1) := by decide +kernel
theorem d_Mo_canHold_25 : decode b_Mo_canHold 25 = .ok (.imul, 1) := by decide +kernel
theorem d_Mo_canHold_26 : decode b_Mo_canHold 26 = .ok (.iadd, 1) := by decide +kernel
theorem d_Mo_canHold_27 : decode b_Mo_canHold 27 = .ok (.istore 4, 2) := by decide +kernel
theorem d_Mo_canHold_29 : decode b_Mo_canHold 29 = .ok (.iinc 5 1, 3) := by decide +kernel
theorem d_Mo_canHold_32 : decode b_Mo_canHold 32 = .ok (.goto (-26), 3) := by decide +kernel
theorem d_Mo_canHold_35 : decode b_Mo_canHold 35 = .ok (.iload_n 3, 1) := by decide +kernel
theorem d_Mo_canHold_36 : decode b_Mo_canHold 36 = .ok (.istore 5, 2) := by decide +kernel
theorem d_Mo_canHold_38 : decode b_Mo_canHold 38 = .ok (.iload 5, 2) := by decide +kernel
theorem d_Mo_canHold_40 : decode b_Mo_canHold 40 = .ok (.aload_n 0, 1) := by decide +kernel
theorem d_Mo_canHold_41 : decode b_Mo_canHold 41 = .ok (.getfield 57, 3) := by decide +kernel
theorem d_Mo_canHold_44 : decode b_Mo_canHold 44 = .ok (.if_icmp .ge 54, 3) := by decide +kernel
theorem d_Mo_canHold_47 : decode b_Mo_canHold 47 = .ok (.aload_n 0, 1) := by decide +kernel
theorem d_Mo_canHold_48 : decode b_Mo_canHold 48 = .ok (.iload_n 1, 1) := by decide +kernel
theorem d_Mo_canHold_49 : decode b_Mo_canHold 49 = .ok (.iload 5, 2) := by decide +kernel
theorem d_Mo_canHold_51 : decode b_Mo_canHold 51 = .ok (.invokevirtual 100, 3) := by decide +kernel
theorem d_Mo_canHold_54 : decode b_Mo_canHold 54 = .ok (.aload_n 0, 1) := by decide +kernel
theorem d_Mo_canHold_55 : decode b_Mo_canHold 55 = .ok (.getfield 13, 3) := by decide +kernel
theorem d_Mo_canHold_58 : decode b_Mo_canHold 58 = .ok (.iload 5, 2) := by decide +kernel
theorem d_Mo_canHold_60 : decode b_Mo_canHold 60 = .ok (.iaload, 1) := by decide +kernel
theorem d_Mo_canHold_61 : decode b_Mo_canHold 61 = .ok (.imul, 1) := by decide +kernel
theorem d_Mo_canHold_62 : decode b_Mo_canHold 62 = .ok (.istore 6, 2) := by decide +kernel
theorem d_Mo_canHold_64 : decode b_Mo_canHold 64 = .ok (.aload_n 0, 1) := by decide +kernel
theorem d_Mo_canHold_65 : decode b_Mo_canHold 65 = .ok (.iload_n 1, 1) := by decide +kernel
theorem d_Mo_canHold_66 : decode b_Mo_canHold 66 = .ok (.invokevirtual 104, 3) := by decide +kernel
theorem d_Mo_canHold_69 : decode b_Mo_canHold 69 = .ok (.ifCond .ne 11, 3) := by decide +kernel
theorem d_Mo_canHold_72 : decode b_Mo_canHold 72 = .ok (.iload 6, 2) := by decide +kernel
theorem d_Mo_canHold_74 : decode b_Mo_canHold 74 = .ok (.ifCond .ge 18, 3) := by decide +kernel
theorem d_Mo_canHold_77 : decode b_Mo_canHold 77 = .ok (.goto 8, 3) := by decide +kernel
theorem d_Mo_canHold_80 : decode b_Mo_canHold 80 = .ok (.iload 6, 2) := by decide +kernel
theorem d_Mo_canHold_82 : decode b_Mo_canHold 82 = .ok (.ifCond .le 10, 3) := by decide +kernel
theorem d_Mo_canHold_85 : decode b_Mo_canHold 85 = .ok (.iload 4, 2) := by decide +kernel
theorem d_Mo_canHold_87 : decode b_Mo_canHold 87 = .ok (.iload 6, 2) := by decide +kernel
theorem d_Mo_canHold_89 : decode b_Mo_canHold 89 = .ok (.iadd, 1) := by decide +kernel
theorem d_Mo_canHold_90 : decode b_Mo_canHold 90 = .ok (.istore 4, 2) := by decide +kernel
theorem d_Mo_canHold_92 : decode b_Mo_canHold 92 = .ok (.iinc 5 1, 3) := by decide +kernel
theorem d_Mo_canHold_95 : decode b_Mo_canHold 95 = .ok (.goto (-57), 3) := by decide +kernel
theorem d_Mo_canHold_98 : decode b_Mo_canHold 98 = .ok (.aload_n 0, 1) := by decide +kernel
theorem d_Mo_canHold_99 : decode b_Mo_canHold 99 = .ok (.iload_n 1, 1) := by decide +kernel
theorem d_Mo_canHold_100 : decode b_Mo_canHold 100 = .ok (.invokevirtual 104, 3) := by decide +kernel
theorem d_Mo_canHold_103 : decode b_Mo_canHold 103 = .ok (.ifCond .ne 21, 3) := by decide +kernel
theorem d_Mo_canHold_106 : decode b_Mo_canHold 106 = .ok (.iload 4, 2) := by decide +kernel
theorem d_Mo_canHold_108 : decode b_Mo_canHold 108 = .ok (.aload_n 0, 1) := by decide +kernel
theorem d_Mo_canHold_109 : decode b_Mo_canHold 109 = .ok (.iload_n 1, 1) := by decide +kernel
theorem d_Mo_canHold_110 : decode b_Mo_canHold 110 = .ok (.invokevirtual 108, 3) := by decide +kernel
theorem d_Mo_canHold_113 : decode b_Mo_canHold 113 = .ok (.if_icmp .gt 7, 3) := by decide +kernel
theorem d_Mo_canHold_116 : decode b_Mo_canHold 116 = .ok (.iconst 1, 1) := by decide +kernel
theorem d_Mo_canHold_117 : decode b_Mo_canHold 117 = .ok (.goto 22, 3) := by decide +kernel
theorem d_Mo_canHold_120 : decode b_Mo_canHold 120 = .ok (.iconst 0, 1) := by decide +kernel
theorem d_Mo_canHold_121 : decode b_Mo_canHold 121 = .ok (.goto 18, 3) := by decide +kernel
theorem d_Mo_canHold_124 : decode b_Mo_canHold 124 = .ok (.iload 4, 2) := by decide +kernel
theorem d_Mo_canHold_126 : decode b_Mo_canHold 126 = .ok (.aload_n 0, 1) := by decide +kernel
theorem d_Mo_canHold_127 : decode b_Mo_canHold 127 = .ok (.iload_n 1, 1) := by decide +kernel
theorem d_Mo_canHold_128 : decode b_Mo_canHold 128 = .ok (.invokevirtual 108, 3) := by decide +kernel
theorem d_Mo_canHold_131 : decode b_Mo_canHold 131 = .ok (.if_icmp .lt 7, 3) := by decide +kernel
theorem d_Mo_canHold_134 : decode b_Mo_canHold 134 = .ok (.iconst 1, 1) := by decide +kernel
theorem d_Mo_canHold_135 : decode b_Mo_canHold 135 = .ok (.goto 4, 3) := by decide +kernel
theorem d_Mo_canHold_138 : decode b_Mo_canHold 138 = .ok (.iconst 0, 1) := by decide +kernel
theorem d_Mo_canHold_139 : decode b_Mo_canHold 139 = .ok (.ireturn, 1) := by decide +kernel
abbrev b_Mo_worthOf : ByteArray := prog_8_method_18_code
def y_Mo_worthOf : MethodName := ⟨RMo, "worthOf", "(I)I"⟩
theorem k_Mo_worthOf : Cond.code y_Mo_worthOf b_Mo_worthOf 4 (some .int) ∈ tt := (tt4 38 rfl rfl)
theorem i_Mo_worthOf : Cond.instanceMethod y_Mo_worthOf ∈ tt := (tt4 37 rfl rfl)
theorem l_Mo_worthOf : Cond.selects RMo y_Mo_worthOf y_Mo_worthOf ∈ tt := (tt0 18 rfl rfl)
theorem d_Mo_worthOf_0 : decode b_Mo_worthOf 0 = .ok (.iconst 0, 1) := by decide +kernel
theorem d_Mo_worthOf_1 : decode b_Mo_worthOf 1 = .ok (.istore_n 2, 1) := by decide +kernel
theorem d_Mo_worthOf_2 : decode b_Mo_worthOf 2 = .ok (.iconst 0, 1) := by decide +kernel
theorem d_Mo_worthOf_3 : decode b_Mo_worthOf 3 = .ok (.istore_n 3, 1) := by decide +kernel
theorem d_Mo_worthOf_4 : decode b_Mo_worthOf 4 = .ok (.iload_n 3, 1) := by decide +kernel
theorem d_Mo_worthOf_5 : decode b_Mo_worthOf 5 = .ok (.iload_n 1, 1) := by decide +kernel
theorem d_Mo_worthOf_6 : decode b_Mo_worthOf 6 = .ok (.if_icmp .ge 25, 3) := by decide +kernel
theorem d_Mo_worthOf_9 : decode b_Mo_worthOf 9 = .ok (.iload_n 2, 1) := by decide +kernel
theorem d_Mo_worthOf_10 : decode b_Mo_worthOf 10 = .ok (.aload_n 0, 1) := by decide +kernel
theorem d_Mo_worthOf_11 : decode b_Mo_worthOf 11 = .ok (.getfield 7, 3) := by decide +kernel
theorem d_Mo_worthOf_14 : decode b_Mo_worthOf 14 = .ok (.iload_n 3, 1) := by decide +kernel
theorem d_Mo_worthOf_15 : decode b_Mo_worthOf 15 = .ok (.iaload, 1) := by decide +kernel
theorem d_Mo_worthOf_16 : decode b_Mo_worthOf 16 = .ok (.aload_n 0, 1) := by decide +kernel
theorem d_Mo_worthOf_17 : decode b_Mo_worthOf 17 = .ok (.getfield 41, 3) := by decide +kernel
theorem d_Mo_worthOf_20 : decode b_Mo_worthOf 20 = .ok (.iload_n 3, 1) := by decide +kernel
theorem d_Mo_worthOf_21 : decode b_Mo_worthOf 21 = .ok (.iaload, 1) := by decide +kernel
theorem d_Mo_worthOf_22 : decode b_Mo_worthOf 22 = .ok (.imul, 1) := by decide +kernel
theorem d_Mo_worthOf_23 : decode b_Mo_worthOf 23 = .ok (.iadd, 1) := by decide +kernel
theorem d_Mo_worthOf_24 : decode b_Mo_worthOf 24 = .ok (.istore_n 2, 1) := by decide +kernel
theorem d_Mo_worthOf_25 : decode b_Mo_worthOf 25 = .ok (.iinc 3 1, 3) := by decide +kernel
theorem d_Mo_worthOf_28 : decode b_Mo_worthOf 28 = .ok (.goto (-24), 3) := by decide +kernel
theorem d_Mo_worthOf_31 : decode b_Mo_worthOf 31 = .ok (.iload_n 2, 1) := by decide +kernel
theorem d_Mo_worthOf_32 : decode b_Mo_worthOf 32 = .ok (.ireturn, 1) := by decide +kernel
abbrev b_Mo_isCut : ByteArray := prog_8_method_19_code
def y_Mo_isCut : MethodName := ⟨RMo, "isCut", "(I)Z"⟩
theorem k_Mo_isCut : Cond.code y_Mo_isCut b_Mo_isCut 4 (some .boolean) ∈ tt := (tt4 34 rfl rfl)
theorem i_Mo_isCut : Cond.instanceMethod y_Mo_isCut ∈ tt := (tt4 33 rfl rfl)
theorem l_Mo_isCut : Cond.selects RMo y_Mo_isCut y_Mo_isCut ∈ tt := (tt0 17 rfl rfl)
theorem d_Mo_isCut_0 : decode b_Mo_isCut 0 = .ok (.aload_n 0, 1) := by decide +kernel
theorem d_Mo_isCut_1 : decode b_Mo_isCut 1 = .ok (.iload_n 1, 1) := by decide +kernel
theorem d_Mo_isCut_2 : decode b_Mo_isCut 2 = .ok (.invokevirtual 111, 3) := by decide +kernel
theorem d_Mo_isCut_5 : decode b_Mo_isCut 5 = .ok (.istore_n 2, 1) := by decide +kernel
theorem d_Mo_isCut_6 : decode b_Mo_isCut 6 = .ok (.iload_n 1, 1) := by decide +kernel
theorem d_Mo_isCut_7 : decode b_Mo_isCut 7 = .ok (.istore_n 3, 1) := by decide +kernel
theorem d_Mo_isCut_8 : decode b_Mo_isCut 8 = .ok (.iload_n 3, 1) := by decide +kernel
theorem d_Mo_isCut_9 : decode b_Mo_isCut 9 = .ok (.aload_n 0, 1) := by decide +kernel
theorem d_Mo_isCut_10 : decode b_Mo_isCut 10 = .ok (.getfield 57, 3) := by decide +kernel
theorem d_Mo_isCut_13 : decode b_Mo_isCut 13 = .ok (.if_icmp .ge 34, 3) := by decide +kernel
theorem d_Mo_isCut_16 : decode b_Mo_isCut 16 = .ok (.aload_n 0, 1) := by decide +kernel
theorem d_Mo_isCut_17 : decode b_Mo_isCut 17 = .ok (.getfield 7, 3) := by decide +kernel
theorem d_Mo_isCut_20 : decode b_Mo_isCut 20 = .ok (.iload_n 3, 1) := by decide +kernel
theorem d_Mo_isCut_21 : decode b_Mo_isCut 21 = .ok (.iaload, 1) := by decide +kernel
theorem d_Mo_isCut_22 : decode b_Mo_isCut 22 = .ok (.ifCond .le 19, 3) := by decide +kernel
theorem d_Mo_isCut_25 : decode b_Mo_isCut 25 = .ok (.iload_n 2, 1) := by decide +kernel
theorem d_Mo_isCut_26 : decode b_Mo_isCut 26 = .ok (.aload_n 0, 1) := by decide +kernel
theorem d_Mo_isCut_27 : decode b_Mo_isCut 27 = .ok (.getfield 7, 3) := by decide +kernel
theorem d_Mo_isCut_30 : decode b_Mo_isCut 30 = .ok (.iload_n 3, 1) := by decide +kernel
theorem d_Mo_isCut_31 : decode b_Mo_isCut 31 = .ok (.iaload, 1) := by decide +kernel
theorem d_Mo_isCut_32 : decode b_Mo_isCut 32 = .ok (.aload_n 0, 1) := by decide +kernel
theorem d_Mo_isCut_33 : decode b_Mo_isCut 33 = .ok (.getfield 13, 3) := by decide +kernel
theorem d_Mo_isCut_36 : decode b_Mo_isCut 36 = .ok (.iload_n 3, 1) := by decide +kernel
theorem d_Mo_isCut_37 : decode b_Mo_isCut 37 = .ok (.iaload, 1) := by decide +kernel
theorem d_Mo_isCut_38 : decode b_Mo_isCut 38 = .ok (.imul, 1) := by decide +kernel
theorem d_Mo_isCut_39 : decode b_Mo_isCut 39 = .ok (.iadd, 1) := by decide +kernel
theorem d_Mo_isCut_40 : decode b_Mo_isCut 40 = .ok (.istore_n 2, 1) := by decide +kernel
theorem d_Mo_isCut_41 : decode b_Mo_isCut 41 = .ok (.iinc 3 1, 3) := by decide +kernel
theorem d_Mo_isCut_44 : decode b_Mo_isCut 44 = .ok (.goto (-36), 3) := by decide +kernel
theorem d_Mo_isCut_47 : decode b_Mo_isCut 47 = .ok (.aload_n 0, 1) := by decide +kernel
theorem d_Mo_isCut_48 : decode b_Mo_isCut 48 = .ok (.getfield 74, 3) := by decide +kernel
theorem d_Mo_isCut_51 : decode b_Mo_isCut 51 = .ok (.ifCond .eq 13, 3) := by decide +kernel
theorem d_Mo_isCut_54 : decode b_Mo_isCut 54 = .ok (.iload_n 2, 1) := by decide +kernel
theorem d_Mo_isCut_55 : decode b_Mo_isCut 55 = .ok (.aload_n 0, 1) := by decide +kernel
theorem d_Mo_isCut_56 : decode b_Mo_isCut 56 = .ok (.getfield 114, 3) := by decide +kernel
theorem d_Mo_isCut_59 : decode b_Mo_isCut 59 = .ok (.if_icmp .gt 5, 3) := by decide +kernel
theorem d_Mo_isCut_62 : decode b_Mo_isCut 62 = .ok (.iconst 1, 1) := by decide +kernel
theorem d_Mo_isCut_63 : decode b_Mo_isCut 63 = .ok (.ireturn, 1) := by decide +kernel
theorem d_Mo_isCut_64 : decode b_Mo_isCut 64 = .ok (.iconst 0, 1) := by decide +kernel
theorem d_Mo_isCut_65 : decode b_Mo_isCut 65 = .ok (.istore_n 3, 1) := by decide +kernel
theorem d_Mo_isCut_66 : decode b_Mo_isCut 66 = .ok (.iload_n 3, 1) := by decide +kernel
theorem d_Mo_isCut_67 : decode b_Mo_isCut 67 = .ok (.aload_n 0, 1) := by decide +kernel
theorem d_Mo_isCut_68 : decode b_Mo_isCut 68 = .ok (.getfield 64, 3) := by decide +kernel
theorem d_Mo_isCut_71 : decode b_Mo_isCut 71 = .ok (.aload_n 0, 1) := by decide +kernel
theorem d_Mo_isCut_72 : decode b_Mo_isCut 72 = .ok (.getfield 97, 3) := by decide +kernel
theorem d_Mo_isCut_75 : decode b_Mo_isCut 75 = .ok (.iadd, 1) := by decide +kernel
theorem d_Mo_isCut_76 : decode b_Mo_isCut 76 = .ok (.if_icmp .ge 24, 3) := by decide +kernel
theorem d_Mo_isCut_79 : decode b_Mo_isCut 79 = .ok (.aload_n 0, 1) := by decide +kernel
theorem d_Mo_isCut_80 : decode b_Mo_isCut 80 = .ok (.iload_n 3, 1) := by decide +kernel
theorem d_Mo_isCut_81 : decode b_Mo_isCut 81 = .ok (.aload_n 0, 1) := by decide +kernel
theorem d_Mo_isCut_82 : decode b_Mo_isCut 82 = .ok (.getfield 41, 3) := by decide +kernel
theorem d_Mo_isCut_85 : decode b_Mo_isCut 85 = .ok (.iload_n 1, 1) := by decide +kernel
theorem d_Mo_isCut_86 : decode b_Mo_isCut 86 = .ok (.invokevirtual 117, 3) := by decide +kernel
theorem d_Mo_isCut_89 : decode b_Mo_isCut 89 = .ok (.ifCond .ne 5, 3) := by decide +kernel
theorem d_Mo_isCut_92 : decode b_Mo_isCut 92 = .ok (.iconst 1, 1) := by decide +kernel
theorem d_Mo_isCut_93 : decode b_Mo_isCut 93 = .ok (.ireturn, 1) := by decide +kernel
theorem d_Mo_isCut_94 : decode b_Mo_isCut 94 = .ok (.iinc 3 1, 3) := by decide +kernel
theorem d_Mo_isCut_97 : decode b_Mo_isCut 97 = .ok (.goto (-31), 3) := by decide +kernel
theorem d_Mo_isCut_100 : decode b_Mo_isCut 100 = .ok (.iconst 0, 1) := by decide +kernel
theorem d_Mo_isCut_101 : decode b_Mo_isCut 101 = .ok (.ireturn, 1) := by decide +kernel
abbrev b_Mo_keeps : ByteArray := prog_8_method_20_code
def y_Mo_keeps : MethodName := ⟨RMo, "keeps", "()V"⟩
theorem k_Mo_keeps : Cond.code y_Mo_keeps b_Mo_keeps 2 none ∈ tt := (tt4 58 rfl rfl)
theorem i_Mo_keeps : Cond.instanceMethod y_Mo_keeps ∈ tt := (tt4 57 rfl rfl)
theorem l_Mo_keeps : Cond.selects RMo y_Mo_keeps y_Mo_keeps ∈ tt := (tt0 23 rfl rfl)
theorem d_Mo_keeps_0 : decode b_Mo_keeps 0 = .ok (.aload_n 0, 1) := by decide +kernel
theorem d_Mo_keeps_1 : decode b_Mo_keeps 1 = .ok (.iconst 1, 1) := by decide +kernel
theorem d_Mo_keeps_2 : decode b_Mo_keeps 2 = .ok (.putfield 74, 3) := by decide +kernel
theorem d_Mo_keeps_5 : decode b_Mo_keeps 5 = .ok (.aload_n 0, 1) := by decide +kernel
theorem d_Mo_keeps_6 : decode b_Mo_keeps 6 = .ok (.aload_n 0, 1) := by decide +kernel
theorem d_Mo_keeps_7 : decode b_Mo_keeps 7 = .ok (.aload_n 0, 1) := by decide +kernel
theorem d_Mo_keeps_8 : decode b_Mo_keeps 8 = .ok (.getfield 57, 3) := by decide +kernel
theorem d_Mo_keeps_11 : decode b_Mo_keeps 11 = .ok (.invokevirtual 111, 3) := by decide +kernel
theorem d_Mo_keeps_14 : decode b_Mo_keeps 14 = .ok (.putfield 114, 3) := by decide +kernel
theorem d_Mo_keeps_17 : decode b_Mo_keeps 17 = .ok (.iconst 0, 1) := by decide +kernel
theorem d_Mo_keeps_18 : decode b_Mo_keeps 18 = .ok (.istore_n 1, 1) := by decide +kernel
theorem d_Mo_keeps_19 : decode b_Mo_keeps 19 = .ok (.iload_n 1, 1) := by decide +kernel
theorem d_Mo_keeps_20 : decode b_Mo_keeps 20 = .ok (.aload_n 0, 1) := by decide +kernel
theorem d_Mo_keeps_21 : decode b_Mo_keeps 21 = .ok (.getfield 57, 3) := by decide +kernel
theorem d_Mo_keeps_24 : decode b_Mo_keeps 24 = .ok (.if_icmp .ge 21, 3) := by decide +kernel
theorem d_Mo_keeps_27 : decode b_Mo_keeps 27 = .ok (.aload_n 0, 1) := by decide +kernel
theorem d_Mo_keeps_28 : decode b_Mo_keeps 28 = .ok (.getfield 44, 3) := by decide +kernel
theorem d_Mo_keeps_31 : decode b_Mo_keeps 31 = .ok (.iload_n 1, 1) := by decide +kernel
theorem d_Mo_keeps_32 : decode b_Mo_keeps 32 = .ok (.aload_n 0, 1) := by decide +kernel
theorem d_Mo_keeps_33 : decode b_Mo_keeps 33 = .ok (.getfield 41, 3) := by decide +kernel
theorem d_Mo_keeps_36 : decode b_Mo_keeps 36 = .ok (.iload_n 1, 1) := by decide +kernel
theorem d_Mo_keeps_37 : decode b_Mo_keeps 37 = .ok (.iaload, 1) := by decide +kernel
theorem d_Mo_keeps_38 : decode b_Mo_keeps 38 = .ok (.iastore, 1) := by decide +kernel
theorem d_Mo_keeps_39 : decode b_Mo_keeps 39 = .ok (.iinc 1 1, 3) := by decide +kernel
theorem d_Mo_keeps_42 : decode b_Mo_keeps 42 = .ok (.goto (-23), 3) := by decide +kernel
theorem d_Mo_keeps_45 : decode b_Mo_keeps 45 = .ok (.return_, 1) := by decide +kernel
abbrev b_Mo_run : ByteArray := prog_8_method_21_code
def y_Mo_run : MethodName := ⟨RMo, "run", "(I)I"⟩
theorem k_Mo_run : Cond.code y_Mo_run b_Mo_run 3 (some .int) ∈ tt := (tt4 29 rfl rfl)
theorem i_Mo_run : Cond.instanceMethod y_Mo_run ∈ tt := (tt4 27 rfl rfl)
theorem l_Mo_run : Cond.selects RMo y_Mo_run y_Mo_run ∈ tt := (tt4 28 rfl rfl)
theorem d_Mo_run_0 : decode b_Mo_run 0 = .ok (.aload_n 0, 1) := by decide +kernel
theorem d_Mo_run_1 : decode b_Mo_run 1 = .ok (.iload_n 1, 1) := by decide +kernel
theorem d_Mo_run_2 : decode b_Mo_run 2 = .ok (.iconst 0, 1) := by decide +kernel
theorem d_Mo_run_3 : decode b_Mo_run 3 = .ok (.ldc 121, 2) := by decide +kernel
theorem d_Mo_run_5 : decode b_Mo_run 5 = .ok (.invokestatic 60, 3) := by decide +kernel
theorem d_Mo_run_8 : decode b_Mo_run 8 = .ok (.iconst 1, 1) := by decide +kernel
theorem d_Mo_run_9 : decode b_Mo_run 9 = .ok (.invokevirtual 80, 3) := by decide +kernel
theorem d_Mo_run_12 : decode b_Mo_run 12 = .ok (.ifCond .ne 5, 3) := by decide +kernel
theorem d_Mo_run_15 : decode b_Mo_run 15 = .ok (.iconst 0, 1) := by decide +kernel
theorem d_Mo_run_16 : decode b_Mo_run 16 = .ok (.ireturn, 1) := by decide +kernel
theorem d_Mo_run_17 : decode b_Mo_run 17 = .ok (.iload_n 1, 1) := by decide +kernel
theorem d_Mo_run_18 : decode b_Mo_run 18 = .ok (.istore_n 2, 1) := by decide +kernel
theorem d_Mo_run_19 : decode b_Mo_run 19 = .ok (.aload_n 0, 1) := by decide +kernel
theorem d_Mo_run_20 : decode b_Mo_run 20 = .ok (.getfield 70, 3) := by decide +kernel
theorem d_Mo_run_23 : decode b_Mo_run 23 = .ok (.ifCond .ne 27, 3) := by decide +kernel
theorem d_Mo_run_26 : decode b_Mo_run 26 = .ok (.aload_n 0, 1) := by decide +kernel
theorem d_Mo_run_27 : decode b_Mo_run 27 = .ok (.getfield 57, 3) := by decide +kernel
theorem d_Mo_run_30 : decode b_Mo_run 30 = .ok (.ifCond .ne 20, 3) := by decide +kernel
theorem d_Mo_run_33 : decode b_Mo_run 33 = .ok (.aload_n 0, 1) := by decide +kernel
theorem d_Mo_run_34 : decode b_Mo_run 34 = .ok (.iconst 0, 1) := by decide +kernel
theorem d_Mo_run_35 : decode b_Mo_run 35 = .ok (.invokevirtual 122, 3) := by decide +kernel
theorem d_Mo_run_38 : decode b_Mo_run 38 = .ok (.ifCond .ne 7, 3) := by decide +kernel
theorem d_Mo_run_41 : decode b_Mo_run 41 = .ok (.aload_n 0, 1) := by decide +kernel
theorem d_Mo_run_42 : decode b_Mo_run 42 = .ok (.invokevirtual 125, 3) := by decide +kernel
theorem d_Mo_run_45 : decode b_Mo_run 45 = .ok (.aload_n 0, 1) := by decide +kernel
theorem d_Mo_run_46 : decode b_Mo_run 46 = .ok (.iconst 1, 1) := by decide +kernel
theorem d_Mo_run_47 : decode b_Mo_run 47 = .ok (.putfield 70, 3) := by decide +kernel
theorem d_Mo_run_50 : decode b_Mo_run 50 = .ok (.aload_n 0, 1) := by decide +kernel
theorem d_Mo_run_51 : decode b_Mo_run 51 = .ok (.getfield 70, 3) := by decide +kernel
theorem d_Mo_run_54 : decode b_Mo_run 54 = .ok (.ifCond .ne 186, 3) := by decide +kernel
theorem d_Mo_run_57 : decode b_Mo_run 57 = .ok (.aload_n 0, 1) := by decide +kernel
theorem d_Mo_run_58 : decode b_Mo_run 58 = .ok (.getfield 38, 3) := by decide +kernel
theorem d_Mo_run_61 : decode b_Mo_run 61 = .ok (.aload_n 0, 1) := by decide +kernel
theorem d_Mo_run_62 : decode b_Mo_run 62 = .ok (.getfield 67, 3) := by decide +kernel
theorem d_Mo_run_65 : decode b_Mo_run 65 = .ok (.iaload, 1) := by decide +kernel
theorem d_Mo_run_66 : decode b_Mo_run 66 = .ok (.ifCond .ge 44, 3) := by decide +kernel
theorem d_Mo_run_69 : decode b_Mo_run 69 = .ok (.aload_n 0, 1) := by decide +kernel
theorem d_Mo_run_70 : decode b_Mo_run 70 = .ok (.dup, 1) := by decide +kernel
theorem d_Mo_run_71 : decode b_Mo_run 71 = .ok (.getfield 67, 3) := by decide +kernel
theorem d_Mo_run_74 : decode b_Mo_run 74 = .ok (.iconst 1, 1) := by decide +kernel
theorem d_Mo_run_75 : decode b_Mo_run 75 = .ok (.isub, 1) := by decide +kernel
theorem d_Mo_run_76 : decode b_Mo_run 76 = .ok (.putfield 67, 3) := by decide +kernel
theorem d_Mo_run_79 : decode b_Mo_run 79 = .ok (.aload_n 0, 1) := by decide +kernel
theorem d_Mo_run_80 : decode b_Mo_run 80 = .ok (.getfield 67, 3) := by decide +kernel
theorem d_Mo_run_83 : decode b_Mo_run 83 = .ok (.ifCond .ge 11, 3) := by decide +kernel
theorem d_Mo_run_86 : decode b_Mo_run 86 = .ok (.aload_n 0, 1) := by decide +kernel
theorem d_Mo_run_87 : decode b_Mo_run 87 = .ok (.iconst 1, 1) := by decide +kernel
theorem d_Mo_run_88 : decode b_Mo_run 88 = .ok (.putfield 70, 3) := by decide +kernel
theorem d_Mo_run_91 : decode b_Mo_run 91 = .ok (.goto (-41), 3) := by decide +kernel
theorem d_Mo_run_94 : decode b_Mo_run 94 = .ok (.aload_n 0, 1) := by decide +kernel
theorem d_Mo_run_95 : decode b_Mo_run 95 = .ok (.getfield 38, 3) := by decide +kernel
theorem d_Mo_run_98 : decode b_Mo_run 98 = .ok (.aload_n 0, 1) := by decide +kernel
theorem d_Mo_run_99 : decode b_Mo_run 99 = .ok (.getfield 67, 3) := by decide +kernel
theorem d_Mo_run_102 : decode b_Mo_run 102 = .ok (.dup2, 1) := by decide +kernel
theorem d_Mo_run_103 : decode b_Mo_run 103 = .ok (.iaload, 1) := by decide +kernel
theorem d_Mo_run_104 : decode b_Mo_run 104 = .ok (.iconst 1, 1) := by decide +kernel
theorem d_Mo_run_105 : decode b_Mo_run 105 = .ok (.isub, 1) := by decide +kernel
theorem d_Mo_run_106 : decode b_Mo_run 106 = .ok (.iastore, 1) := by decide +kernel
theorem d_Mo_run_107 : decode b_Mo_run 107 = .ok (.goto (-57), 3) := by decide +kernel
theorem d_Mo_run_110 : decode b_Mo_run 110 = .ok (.iload_n 2, 1) := by decide +kernel
theorem d_Mo_run_111 : decode b_Mo_run 111 = .ok (.ifCond .ne 5, 3) := by decide +kernel
theorem d_Mo_run_114 : decode b_Mo_run 114 = .ok (.iconst 2, 1) := by decide +kernel
theorem d_Mo_run_115 : decode b_Mo_run 115 = .ok (.ireturn, 1) := by decide +kernel
theorem d_Mo_run_116 : decode b_Mo_run 116 = .ok (.iinc 2 (-1), 3) := by decide +kernel
theorem d_Mo_run_119 : decode b_Mo_run 119 = .ok (.aload_n 0, 1) := by decide +kernel
theorem d_Mo_run_120 : decode b_Mo_run 120 = .ok (.dup, 1) := by decide +kernel
theorem d_Mo_run_121 : decode b_Mo_run 121 = .ok (.getfield 77, 3) := by decide +kernel
theorem d_Mo_run_124 : decode b_Mo_run 124 = .ok (.iconst 1, 1) := by decide +kernel
theorem d_Mo_run_125 : decode b_Mo_run 125 = .ok (.iadd, 1) := by decide +kernel
theorem d_Mo_run_126 : decode b_Mo_run 126 = .ok (.putfield 77, 3) := by decide +kernel
theorem d_Mo_run_129 : decode b_Mo_run 129 = .ok (.aload_n 0, 1) := by decide +kernel
theorem d_Mo_run_130 : decode b_Mo_run 130 = .ok (.getfield 41, 3) := by decide +kernel
theorem d_Mo_run_133 : decode b_Mo_run 133 = .ok (.aload_n 0, 1) := by decide +kernel
theorem d_Mo_run_134 : decode b_Mo_run 134 = .ok (.getfield 67, 3) := by decide +kernel
theorem d_Mo_run_137 : decode b_Mo_run 137 = .ok (.aload_n 0, 1) := by decide +kernel
theorem d_Mo_run_138 : decode b_Mo_run 138 = .ok (.getfield 38, 3) := by decide +kernel
theorem d_Mo_run_141 : decode b_Mo_run 141 = .ok (.aload_n 0, 1) := by decide +kernel
theorem d_Mo_run_142 : decode b_Mo_run 142 = .ok (.getfield 67, 3) := by decide +kernel
theorem d_Mo_run_145 : decode b_Mo_run 145 = .ok (.iaload, 1) := by decide +kernel
theorem d_Mo_run_146 : decode b_Mo_run 146 = .ok (.iastore, 1) := by decide +kernel
theorem d_Mo_run_147 : decode b_Mo_run 147 = .ok (.aload_n 0, 1) := by decide +kernel
theorem d_Mo_run_148 : decode b_Mo_run 148 = .ok (.aload_n 0, 1) := by decide +kernel
theorem d_Mo_run_149 : decode b_Mo_run 149 = .ok (.getfield 67, 3) := by decide +kernel
theorem d_Mo_run_152 : decode b_Mo_run 152 = .ok (.iconst 1, 1) := by decide +kernel
theorem d_Mo_run_153 : decode b_Mo_run 153 = .ok (.iadd, 1) := by decide +kernel
theorem d_Mo_run_154 : decode b_Mo_run 154 = .ok (.invokevirtual 122, 3) := by decide +kernel
theorem d_Mo_run_157 : decode b_Mo_run 157 = .ok (.ifCond .eq 19, 3) := by decide +kernel
theorem d_Mo_run_160 : decode b_Mo_run 160 = .ok (.aload_n 0, 1) := by decide +kernel
theorem d_Mo_run_161 : decode b_Mo_run 161 = .ok (.getfield 38, 3) := by decide +kernel
theorem d_Mo_run_164 : decode b_Mo_run 164 = .ok (.aload_n 0, 1) := by decide +kernel
theorem d_Mo_run_165 : decode b_Mo_run 165 = .ok (.getfield 67, 3) := by decide +kernel
theorem d_Mo_run_168 : decode b_Mo_run 168 = .ok (.dup2, 1) := by decide +kernel
theorem d_Mo_run_169 : decode b_Mo_run 169 = .ok (.iaload, 1) := by decide +kernel
theorem d_Mo_run_170 : decode b_Mo_run 170 = .ok (.iconst 1, 1) := by decide +kernel
theorem d_Mo_run_171 : decode b_Mo_run 171 = .ok (.isub, 1) := by decide +kernel
theorem d_Mo_run_172 : decode b_Mo_run 172 = .ok (.iastore, 1) := by decide +kernel
theorem d_Mo_run_173 : decode b_Mo_run 173 = .ok (.goto (-123), 3) := by decide +kernel
theorem d_Mo_run_176 : decode b_Mo_run 176 = .ok (.aload_n 0, 1) := by decide +kernel
theorem d_Mo_run_177 : decode b_Mo_run 177 = .ok (.getfield 67, 3) := by decide +kernel
theorem d_Mo_run_180 : decode b_Mo_run 180 = .ok (.aload_n 0, 1) := by decide +kernel
theorem d_Mo_run_181 : decode b_Mo_run 181 = .ok (.getfield 57, 3) := by decide +kernel
theorem d_Mo_run_184 : decode b_Mo_run 184 = .ok (.iconst 1, 1) := by decide +kernel
theorem d_Mo_run_185 : decode b_Mo_run 185 = .ok (.isub, 1) := by decide +kernel
theorem d_Mo_run_186 : decode b_Mo_run 186 = .ok (.if_icmp .ne 23, 3) := by decide +kernel
theorem d_Mo_run_189 : decode b_Mo_run 189 = .ok (.aload_n 0, 1) := by decide +kernel
theorem d_Mo_run_190 : decode b_Mo_run 190 = .ok (.invokevirtual 125, 3) := by decide +kernel
theorem d_Mo_run_193 : decode b_Mo_run 193 = .ok (.aload_n 0, 1) := by decide +kernel
theorem d_Mo_run_194 : decode b_Mo_run 194 = .ok (.getfield 38, 3) := by decide +kernel
theorem d_Mo_run_197 : decode b_Mo_run 197 = .ok (.aload_n 0, 1) := by decide +kernel
theorem d_Mo_run_198 : decode b_Mo_run 198 = .ok (.getfield 67, 3) := by decide +kernel
theorem d_Mo_run_201 : decode b_Mo_run 201 = .ok (.dup2, 1) := by decide +kernel
theorem d_Mo_run_202 : decode b_Mo_run 202 = .ok (.iaload, 1) := by decide +kernel
theorem d_Mo_run_203 : decode b_Mo_run 203 = .ok (.iconst 1, 1) := by decide +kernel
theorem d_Mo_run_204 : decode b_Mo_run 204 = .ok (.isub, 1) := by decide +kernel
theorem d_Mo_run_205 : decode b_Mo_run 205 = .ok (.iastore, 1) := by decide +kernel
theorem d_Mo_run_206 : decode b_Mo_run 206 = .ok (.goto (-156), 3) := by decide +kernel
theorem d_Mo_run_209 : decode b_Mo_run 209 = .ok (.aload_n 0, 1) := by decide +kernel
theorem d_Mo_run_210 : decode b_Mo_run 210 = .ok (.dup, 1) := by decide +kernel
theorem d_Mo_run_211 : decode b_Mo_run 211 = .ok (.getfield 67, 3) := by decide +kernel
theorem d_Mo_run_214 : decode b_Mo_run 214 = .ok (.iconst 1, 1) := by decide +kernel
theorem d_Mo_run_215 : decode b_Mo_run 215 = .ok (.iadd, 1) := by decide +kernel
theorem d_Mo_run_216 : decode b_Mo_run 216 = .ok (.putfield 67, 3) := by decide +kernel
theorem d_Mo_run_219 : decode b_Mo_run 219 = .ok (.aload_n 0, 1) := by decide +kernel
theorem d_Mo_run_220 : decode b_Mo_run 220 = .ok (.getfield 38, 3) := by decide +kernel
theorem d_Mo_run_223 : decode b_Mo_run 223 = .ok (.aload_n 0, 1) := by decide +kernel
theorem d_Mo_run_224 : decode b_Mo_run 224 = .ok (.getfield 67, 3) := by decide +kernel
theorem d_Mo_run_227 : decode b_Mo_run 227 = .ok (.aload_n 0, 1) := by decide +kernel
theorem d_Mo_run_228 : decode b_Mo_run 228 = .ok (.getfield 13, 3) := by decide +kernel
theorem d_Mo_run_231 : decode b_Mo_run 231 = .ok (.aload_n 0, 1) := by decide +kernel
theorem d_Mo_run_232 : decode b_Mo_run 232 = .ok (.getfield 67, 3) := by decide +kernel
theorem d_Mo_run_235 : decode b_Mo_run 235 = .ok (.iaload, 1) := by decide +kernel
theorem d_Mo_run_236 : decode b_Mo_run 236 = .ok (.iastore, 1) := by decide +kernel
theorem d_Mo_run_237 : decode b_Mo_run 237 = .ok (.goto (-187), 3) := by decide +kernel
theorem d_Mo_run_240 : decode b_Mo_run 240 = .ok (.aload_n 0, 1) := by decide +kernel
theorem d_Mo_run_241 : decode b_Mo_run 241 = .ok (.getfield 74, 3) := by decide +kernel
theorem d_Mo_run_244 : decode b_Mo_run 244 = .ok (.ifCond .eq 7, 3) := by decide +kernel
theorem d_Mo_run_247 : decode b_Mo_run 247 = .ok (.iconst 0, 1) := by decide +kernel
theorem d_Mo_run_248 : decode b_Mo_run 248 = .ok (.goto 4, 3) := by decide +kernel
theorem d_Mo_run_251 : decode b_Mo_run 251 = .ok (.iconst 1, 1) := by decide +kernel
theorem d_Mo_run_252 : decode b_Mo_run 252 = .ok (.ireturn, 1) := by decide +kernel
abbrev b_Mo_told : ByteArray := prog_8_method_22_code
def y_Mo_told : MethodName := ⟨RMo, "told", "(I)I"⟩
theorem k_Mo_told : Cond.code y_Mo_told b_Mo_told 2 (some .int) ∈ tt := (tt4 62 rfl rfl)
theorem i_Mo_told : Cond.instanceMethod y_Mo_told ∈ tt := (tt4 60 rfl rfl)
theorem l_Mo_told : Cond.selects RMo y_Mo_told y_Mo_told ∈ tt := (tt4 61 rfl rfl)
theorem d_Mo_told_0 : decode b_Mo_told 0 = .ok (.aload_n 0, 1) := by decide +kernel
theorem d_Mo_told_1 : decode b_Mo_told 1 = .ok (.iload_n 1, 1) := by decide +kernel
theorem d_Mo_told_2 : decode b_Mo_told 2 = .ok (.iconst 0, 1) := by decide +kernel
theorem d_Mo_told_3 : decode b_Mo_told 3 = .ok (.iconst 1, 1) := by decide +kernel
theorem d_Mo_told_4 : decode b_Mo_told 4 = .ok (.invokestatic 60, 3) := by decide +kernel
theorem d_Mo_told_7 : decode b_Mo_told 7 = .ok (.iload_n 1, 1) := by decide +kernel
theorem d_Mo_told_8 : decode b_Mo_told 8 = .ok (.iconst 1, 1) := by decide +kernel
theorem d_Mo_told_9 : decode b_Mo_told 9 = .ok (.if_icmp .eq 10, 3) := by decide +kernel
theorem d_Mo_told_12 : decode b_Mo_told 12 = .ok (.aload_n 0, 1) := by decide +kernel
theorem d_Mo_told_13 : decode b_Mo_told 13 = .ok (.getfield 74, 3) := by decide +kernel
theorem d_Mo_told_16 : decode b_Mo_told 16 = .ok (.ifCond .eq 7, 3) := by decide +kernel
theorem d_Mo_told_19 : decode b_Mo_told 19 = .ok (.iconst 1, 1) := by decide +kernel
theorem d_Mo_told_20 : decode b_Mo_told 20 = .ok (.goto 4, 3) := by decide +kernel
theorem d_Mo_told_23 : decode b_Mo_told 23 = .ok (.iconst 0, 1) := by decide +kernel
theorem d_Mo_told_24 : decode b_Mo_told 24 = .ok (.invokevirtual 80, 3) := by decide +kernel
theorem d_Mo_told_27 : decode b_Mo_told 27 = .ok (.ifCond .ne 5, 3) := by decide +kernel
theorem d_Mo_told_30 : decode b_Mo_told 30 = .ok (.iconst 0, 1) := by decide +kernel
theorem d_Mo_told_31 : decode b_Mo_told 31 = .ok (.ireturn, 1) := by decide +kernel
theorem d_Mo_told_32 : decode b_Mo_told 32 = .ok (.iload_n 1, 1) := by decide +kernel
theorem d_Mo_told_33 : decode b_Mo_told 33 = .ok (.ifCond .ne 10, 3) := by decide +kernel
theorem d_Mo_told_36 : decode b_Mo_told 36 = .ok (.aload_n 0, 1) := by decide +kernel
theorem d_Mo_told_37 : decode b_Mo_told 37 = .ok (.getfield 114, 3) := by decide +kernel
theorem d_Mo_told_40 : decode b_Mo_told 40 = .ok (.goto 7, 3) := by decide +kernel
theorem d_Mo_told_43 : decode b_Mo_told 43 = .ok (.aload_n 0, 1) := by decide +kernel
theorem d_Mo_told_44 : decode b_Mo_told 44 = .ok (.getfield 77, 3) := by decide +kernel
theorem d_Mo_told_47 : decode b_Mo_told 47 = .ok (.ireturn, 1) := by decide +kernel
abbrev b_Mo_value : ByteArray := prog_8_method_23_code
def y_Mo_value : MethodName := ⟨RMo, "value", "(I)I"⟩
theorem k_Mo_value : Cond.code y_Mo_value b_Mo_value 2 (some .int) ∈ tt := (tt4 66 rfl rfl)
theorem i_Mo_value : Cond.instanceMethod y_Mo_value ∈ tt := (tt4 64 rfl rfl)
theorem l_Mo_value : Cond.selects RMo y_Mo_value y_Mo_value ∈ tt := (tt4 65 rfl rfl)
theorem d_Mo_value_0 : decode b_Mo_value 0 = .ok (.aload_n 0, 1) := by decide +kernel
theorem d_Mo_value_1 : decode b_Mo_value 1 = .ok (.aload_n 0, 1) := by decide +kernel
theorem d_Mo_value_2 : decode b_Mo_value 2 = .ok (.iload_n 1, 1) := by decide +kernel
theorem d_Mo_value_3 : decode b_Mo_value 3 = .ok (.invokevirtual 94, 3) := by decide +kernel
theorem d_Mo_value_6 : decode b_Mo_value 6 = .ok (.aload_n 0, 1) := by decide +kernel
theorem d_Mo_value_7 : decode b_Mo_value 7 = .ok (.getfield 74, 3) := by decide +kernel
theorem d_Mo_value_10 : decode b_Mo_value 10 = .ok (.invokevirtual 80, 3) := by decide +kernel
theorem d_Mo_value_13 : decode b_Mo_value 13 = .ok (.ifCond .ne 5, 3) := by decide +kernel
theorem d_Mo_value_16 : decode b_Mo_value 16 = .ok (.iconst 0, 1) := by decide +kernel
theorem d_Mo_value_17 : decode b_Mo_value 17 = .ok (.ireturn, 1) := by decide +kernel
theorem d_Mo_value_18 : decode b_Mo_value 18 = .ok (.aload_n 0, 1) := by decide +kernel
theorem d_Mo_value_19 : decode b_Mo_value 19 = .ok (.getfield 44, 3) := by decide +kernel
theorem d_Mo_value_22 : decode b_Mo_value 22 = .ok (.iload_n 1, 1) := by decide +kernel
theorem d_Mo_value_23 : decode b_Mo_value 23 = .ok (.iaload, 1) := by decide +kernel
theorem d_Mo_value_24 : decode b_Mo_value 24 = .ok (.ireturn, 1) := by decide +kernel
abbrev b_Mo_multiplier : ByteArray := prog_8_method_24_code
def y_Mo_multiplier : MethodName := ⟨RMo, "multiplier", "(II)V"⟩
theorem k_Mo_multiplier : Cond.code y_Mo_multiplier b_Mo_multiplier 4 none ∈ tt := (tt4 70 rfl rfl)
theorem i_Mo_multiplier : Cond.instanceMethod y_Mo_multiplier ∈ tt := (tt4 68 rfl rfl)
theorem l_Mo_multiplier : Cond.selects RMo y_Mo_multiplier y_Mo_multiplier ∈ tt := (tt4 69 rfl rfl)
theorem d_Mo_multiplier_0 : decode b_Mo_multiplier 0 = .ok (.iload_n 1, 1) := by decide +kernel
theorem d_Mo_multiplier_1 : decode b_Mo_multiplier 1 = .ok (.iconst 0, 1) := by decide +kernel
theorem d_Mo_multiplier_2 : decode b_Mo_multiplier 2 = .ok (.aload_n 0, 1) := by decide +kernel
theorem d_Mo_multiplier_3 : decode b_Mo_multiplier 3 = .ok (.getfield 64, 3) := by decide +kernel
theorem d_Mo_multiplier_6 : decode b_Mo_multiplier 6 = .ok (.aload_n 0, 1) := by decide +kernel
theorem d_Mo_multiplier_7 : decode b_Mo_multiplier 7 = .ok (.getfield 97, 3) := by decide +kernel
theorem d_Mo_multiplier_10 : decode b_Mo_multiplier 10 = .ok (.iadd, 1) := by decide +kernel
theorem d_Mo_multiplier_11 : decode b_Mo_multiplier 11 = .ok (.iconst 1, 1) := by decide +kernel
theorem d_Mo_multiplier_12 : decode b_Mo_multiplier 12 = .ok (.isub, 1) := by decide +kernel
theorem d_Mo_multiplier_13 : decode b_Mo_multiplier 13 = .ok (.invokestatic 60, 3) := by decide +kernel
theorem d_Mo_multiplier_16 : decode b_Mo_multiplier 16 = .ok (.istore_n 3, 1) := by decide +kernel
theorem d_Mo_multiplier_17 : decode b_Mo_multiplier 17 = .ok (.aload_n 0, 1) := by decide +kernel
theorem d_Mo_multiplier_18 : decode b_Mo_multiplier 18 = .ok (.iload_n 3, 1) := by decide +kernel
theorem d_Mo_multiplier_19 : decode b_Mo_multiplier 19 = .ok (.iload_n 3, 1) := by decide +kernel
theorem d_Mo_multiplier_20 : decode b_Mo_multiplier 20 = .ok (.ifCond .eq 38, 3) := by decide +kernel
theorem d_Mo_multiplier_23 : decode b_Mo_multiplier 23 = .ok (.aload_n 0, 1) := by decide +kernel
theorem d_Mo_multiplier_24 : decode b_Mo_multiplier 24 = .ok (.iload_n 1, 1) := by decide +kernel
theorem d_Mo_multiplier_25 : decode b_Mo_multiplier 25 = .ok (.invokevirtual 104, 3) := by decide +kernel
theorem d_Mo_multiplier_28 : decode b_Mo_multiplier 28 = .ok (.ifCond .ne 16, 3) := by decide +kernel
theorem d_Mo_multiplier_31 : decode b_Mo_multiplier 31 = .ok (.iload_n 2, 1) := by decide +kernel
theorem d_Mo_multiplier_32 : decode b_Mo_multiplier 32 = .ok (.iconst 0, 1) := by decide +kernel
theorem d_Mo_multiplier_33 : decode b_Mo_multiplier 33 = .ok (.ldc 128, 2) := by decide +kernel
theorem d_Mo_multiplier_35 : decode b_Mo_multiplier 35 = .ok (.invokestatic 60, 3) := by decide +kernel
theorem d_Mo_multiplier_38 : decode b_Mo_multiplier 38 = .ok (.ifCond .eq 20, 3) := by decide +kernel
theorem d_Mo_multiplier_41 : decode b_Mo_multiplier 41 = .ok (.goto 13, 3) := by decide +kernel
theorem d_Mo_multiplier_44 : decode b_Mo_multiplier 44 = .ok (.iload_n 2, 1) := by decide +kernel
theorem d_Mo_multiplier_45 : decode b_Mo_multiplier 45 = .ok (.ldc 129, 2) := by decide +kernel
theorem d_Mo_multiplier_47 : decode b_Mo_multiplier 47 = .ok (.iconst 0, 1) := by decide +kernel
theorem d_Mo_multiplier_48 : decode b_Mo_multiplier 48 = .ok (.invokestatic 60, 3) := by decide +kernel
theorem d_Mo_multiplier_51 : decode b_Mo_multiplier 51 = .ok (.ifCond .eq 7, 3) := by decide +kernel
theorem d_Mo_multiplier_54 : decode b_Mo_multiplier 54 = .ok (.iconst 1, 1) := by decide +kernel
theorem d_Mo_multiplier_55 : decode b_Mo_multiplier 55 = .ok (.goto 4, 3) := by decide +kernel
theorem d_Mo_multiplier_58 : decode b_Mo_multiplier 58 = .ok (.iconst 0, 1) := by decide +kernel
theorem d_Mo_multiplier_59 : decode b_Mo_multiplier 59 = .ok (.invokevirtual 80, 3) := by decide +kernel
theorem d_Mo_multiplier_62 : decode b_Mo_multiplier 62 = .ok (.ifCond .eq 10, 3) := by decide +kernel
theorem d_Mo_multiplier_65 : decode b_Mo_multiplier 65 = .ok (.aload_n 0, 1) := by decide +kernel
theorem d_Mo_multiplier_66 : decode b_Mo_multiplier 66 = .ok (.getfield 31, 3) := by decide +kernel
theorem d_Mo_multiplier_69 : decode b_Mo_multiplier 69 = .ok (.iload_n 1, 1) := by decide +kernel
theorem d_Mo_multiplier_70 : decode b_Mo_multiplier 70 = .ok (.iload_n 2, 1) := by decide +kernel
theorem d_Mo_multiplier_71 : decode b_Mo_multiplier 71 = .ok (.iastore, 1) := by decide +kernel
theorem d_Mo_multiplier_72 : decode b_Mo_multiplier 72 = .ok (.return_, 1) := by decide +kernel
abbrev b_Mo_certificate : ByteArray := prog_8_method_25_code
def y_Mo_certificate : MethodName := ⟨RMo, "certificate", "()J"⟩
theorem k_Mo_certificate : Cond.code y_Mo_certificate b_Mo_certificate 7 (some .long) ∈ tt := (tt4 76 rfl rfl)
theorem i_Mo_certificate : Cond.instanceMethod y_Mo_certificate ∈ tt := (tt4 74 rfl rfl)
theorem l_Mo_certificate : Cond.selects RMo y_Mo_certificate y_Mo_certificate ∈ tt := (tt4 75 rfl rfl)
theorem d_Mo_certificate_0 : decode b_Mo_certificate 0 = .ok (.aload_n 0, 1) := by decide +kernel
theorem d_Mo_certificate_1 : decode b_Mo_certificate 1 = .ok (.iconst 0, 1) := by decide +kernel
theorem d_Mo_certificate_2 : decode b_Mo_certificate 2 = .ok (.putfield 53, 3) := by decide +kernel
theorem d_Mo_certificate_5 : decode b_Mo_certificate 5 = .ok (.lconst 0, 1) := by decide +kernel
theorem d_Mo_certificate_6 : decode b_Mo_certificate 6 = .ok (.lstore_n 1, 1) := by decide +kernel
theorem d_Mo_certificate_7 : decode b_Mo_certificate 7 = .ok (.iconst 0, 1) := by decide +kernel
theorem d_Mo_certificate_8 : decode b_Mo_certificate 8 = .ok (.istore_n 3, 1) := by decide +kernel
theorem d_Mo_certificate_9 : decode b_Mo_certificate 9 = .ok (.iload_n 3, 1) := by decide +kernel
theorem d_Mo_certificate_10 : decode b_Mo_certificate 10 = .ok (.aload_n 0, 1) := by decide +kernel
theorem d_Mo_certificate_11 : decode b_Mo_certificate 11 = .ok (.getfield 64, 3) := by decide +kernel
theorem d_Mo_certificate_14 : decode b_Mo_certificate 14 = .ok (.aload_n 0, 1) := by decide +kernel
theorem d_Mo_certificate_15 : decode b_Mo_certificate 15 = .ok (.getfield 97, 3) := by decide +kernel
theorem d_Mo_certificate_18 : decode b_Mo_certificate 18 = .ok (.iadd, 1) := by decide +kernel
theorem d_Mo_certificate_19 : decode b_Mo_certificate 19 = .ok (.if_icmp .ge 26, 3) := by decide +kernel
theorem d_Mo_certificate_22 : decode b_Mo_certificate 22 = .ok (.lload_n 1, 1) := by decide +kernel
theorem d_Mo_certificate_23 : decode b_Mo_certificate 23 = .ok (.aload_n 0, 1) := by decide +kernel
theorem d_Mo_certificate_24 : decode b_Mo_certificate 24 = .ok (.getfield 31, 3) := by decide +kernel
theorem d_Mo_certificate_27 : decode b_Mo_certificate 27 = .ok (.iload_n 3, 1) := by decide +kernel
theorem d_Mo_certificate_28 : decode b_Mo_certificate 28 = .ok (.iaload, 1) := by decide +kernel
theorem d_Mo_certificate_29 : decode b_Mo_certificate 29 = .ok (.i2l, 1) := by decide +kernel
theorem d_Mo_certificate_30 : decode b_Mo_certificate 30 = .ok (.aload_n 0, 1) := by decide +kernel
theorem d_Mo_certificate_31 : decode b_Mo_certificate 31 = .ok (.iload_n 3, 1) := by decide +kernel
theorem d_Mo_certificate_32 : decode b_Mo_certificate 32 = .ok (.invokevirtual 108, 3) := by decide +kernel
theorem d_Mo_certificate_35 : decode b_Mo_certificate 35 = .ok (.i2l, 1) := by decide +kernel
theorem d_Mo_certificate_36 : decode b_Mo_certificate 36 = .ok (.lmul, 1) := by decide +kernel
theorem d_Mo_certificate_37 : decode b_Mo_certificate 37 = .ok (.ladd, 1) := by decide +kernel
theorem d_Mo_certificate_38 : decode b_Mo_certificate 38 = .ok (.lstore_n 1, 1) := by decide +kernel
theorem d_Mo_certificate_39 : decode b_Mo_certificate 39 = .ok (.iinc 3 1, 3) := by decide +kernel
theorem d_Mo_certificate_42 : decode b_Mo_certificate 42 = .ok (.goto (-33), 3) := by decide +kernel
theorem d_Mo_certificate_45 : decode b_Mo_certificate 45 = .ok (.iconst 0, 1) := by decide +kernel
theorem d_Mo_certificate_46 : decode b_Mo_certificate 46 = .ok (.istore_n 3, 1) := by decide +kernel
theorem d_Mo_certificate_47 : decode b_Mo_certificate 47 = .ok (.iload_n 3, 1) := by decide +kernel
theorem d_Mo_certificate_48 : decode b_Mo_certificate 48 = .ok (.aload_n 0, 1) := by decide +kernel
theorem d_Mo_certificate_49 : decode b_Mo_certificate 49 = .ok (.getfield 57, 3) := by decide +kernel
theorem d_Mo_certificate_52 : decode b_Mo_certificate 52 = .ok (.if_icmp .ge 87, 3) := by decide +kernel
theorem d_Mo_certificate_55 : decode b_Mo_certificate 55 = .ok (.ldc2_w 130, 3) := by decide +kernel
theorem d_Mo_certificate_58 : decode b_Mo_certificate 58 = .ok (.aload_n 0, 1) := by decide +kernel
theorem d_Mo_certificate_59 : decode b_Mo_certificate 59 = .ok (.getfield 7, 3) := by decide +kernel
theorem d_Mo_certificate_62 : decode b_Mo_certificate 62 = .ok (.iload_n 3, 1) := by decide +kernel
theorem d_Mo_certificate_63 : decode b_Mo_certificate 63 = .ok (.iaload, 1) := by decide +kernel
theorem d_Mo_certificate_64 : decode b_Mo_certificate 64 = .ok (.i2l, 1) := by decide +kernel
theorem d_Mo_certificate_65 : decode b_Mo_certificate 65 = .ok (.lmul, 1) := by decide +kernel
theorem d_Mo_certificate_66 : decode b_Mo_certificate 66 = .ok (.lstore 4, 2) := by decide +kernel
theorem d_Mo_certificate_68 : decode b_Mo_certificate 68 = .ok (.iconst 0, 1) := by decide +kernel
theorem d_Mo_certificate_69 : decode b_Mo_certificate 69 = .ok (.istore 6, 2) := by decide +kernel
theorem d_Mo_certificate_71 : decode b_Mo_certificate 71 = .ok (.iload 6, 2) := by decide +kernel
theorem d_Mo_certificate_73 : decode b_Mo_certificate 73 = .ok (.aload_n 0, 1) := by decide +kernel
theorem d_Mo_certificate_74 : decode b_Mo_certificate 74 = .ok (.getfield 64, 3) := by decide +kernel
theorem d_Mo_certificate_77 : decode b_Mo_certificate 77 = .ok (.aload_n 0, 1) := by decide +kernel
theorem d_Mo_certificate_78 : decode b_Mo_certificate 78 = .ok (.getfield 97, 3) := by decide +kernel
theorem d_Mo_certificate_81 : decode b_Mo_certificate 81 = .ok (.iadd, 1) := by decide +kernel
theorem d_Mo_certificate_82 : decode b_Mo_certificate 82 = .ok (.if_icmp .ge 31, 3) := by decide +kernel
theorem d_Mo_certificate_85 : decode b_Mo_certificate 85 = .ok (.lload 4, 2) := by decide +kernel
theorem d_Mo_certificate_87 : decode b_Mo_certificate 87 = .ok (.aload_n 0, 1) := by decide +kernel
theorem d_Mo_certificate_88 : decode b_Mo_certificate 88 = .ok (.getfield 31, 3) := by decide +kernel
theorem d_Mo_certificate_91 : decode b_Mo_certificate 91 = .ok (.iload 6, 2) := by decide +kernel
theorem d_Mo_certificate_93 : decode b_Mo_certificate 93 = .ok (.iaload, 1) := by decide +kernel
theorem d_Mo_certificate_94 : decode b_Mo_certificate 94 = .ok (.i2l, 1) := by decide +kernel
theorem d_Mo_certificate_95 : decode b_Mo_certificate 95 = .ok (.aload_n 0, 1) := by decide +kernel
theorem d_Mo_certificate_96 : decode b_Mo_certificate 96 = .ok (.iload 6, 2) := by decide +kernel
theorem d_Mo_certificate_98 : decode b_Mo_certificate 98 = .ok (.iload_n 3, 1) := by decide +kernel
theorem d_Mo_certificate_99 : decode b_Mo_certificate 99 = .ok (.invokevirtual 100, 3) := by decide +kernel
theorem d_Mo_certificate_102 : decode b_Mo_certificate 102 = .ok (.i2l, 1) := by decide +kernel
theorem d_Mo_certificate_103 : decode b_Mo_certificate 103 = .ok (.lmul, 1) := by decide +kernel
theorem d_Mo_certificate_104 : decode b_Mo_certificate 104 = .ok (.lsub, 1) := by decide +kernel
theorem d_Mo_certificate_105 : decode b_Mo_certificate 105 = .ok (.lstore 4, 2) := by decide +kernel
theorem d_Mo_certificate_107 : decode b_Mo_certificate 107 = .ok (.iinc 6 1, 3) := by decide +kernel
theorem d_Mo_certificate_110 : decode b_Mo_certificate 110 = .ok (.goto (-39), 3) := by decide +kernel
theorem d_Mo_certificate_113 : decode b_Mo_certificate 113 = .ok (.lload 4, 2) := by decide +kernel
theorem d_Mo_certificate_115 : decode b_Mo_certificate 115 = .ok (.lconst 0, 1) := by decide +kernel
theorem d_Mo_certificate_116 : decode b_Mo_certificate 116 = .ok (.lcmp, 1) := by decide +kernel
theorem d_Mo_certificate_117 : decode b_Mo_certificate 117 = .ok (.ifCond .le 16, 3) := by decide +kernel
theorem d_Mo_certificate_120 : decode b_Mo_certificate 120 = .ok (.lload_n 1, 1) := by decide +kernel
theorem d_Mo_certificate_121 : decode b_Mo_certificate 121 = .ok (.lload 4, 2) := by decide +kernel
theorem d_Mo_certificate_123 : decode b_Mo_certificate 123 = .ok (.aload_n 0, 1) := by decide +kernel
theorem d_Mo_certificate_124 : decode b_Mo_certificate 124 = .ok (.getfield 13, 3) := by decide +kernel
theorem d_Mo_certificate_127 : decode b_Mo_certificate 127 = .ok (.iload_n 3, 1) := by decide +kernel
theorem d_Mo_certificate_128 : decode b_Mo_certificate 128 = .ok (.iaload, 1) := by decide +kernel
theorem d_Mo_certificate_129 : decode b_Mo_certificate 129 = .ok (.i2l, 1) := by decide +kernel
theorem d_Mo_certificate_130 : decode b_Mo_certificate 130 = .ok (.lmul, 1) := by decide +kernel
theorem d_Mo_certificate_131 : decode b_Mo_certificate 131 = .ok (.ladd, 1) := by decide +kernel
theorem d_Mo_certificate_132 : decode b_Mo_certificate 132 = .ok (.lstore_n 1, 1) := by decide +kernel
theorem d_Mo_certificate_133 : decode b_Mo_certificate 133 = .ok (.iinc 3 1, 3) := by decide +kernel
theorem d_Mo_certificate_136 : decode b_Mo_certificate 136 = .ok (.goto (-89), 3) := by decide +kernel
theorem d_Mo_certificate_139 : decode b_Mo_certificate 139 = .ok (.lload_n 1, 1) := by decide +kernel
theorem d_Mo_certificate_140 : decode b_Mo_certificate 140 = .ok (.ldc2_w 130, 3) := by decide +kernel
theorem d_Mo_certificate_143 : decode b_Mo_certificate 143 = .ok (.ldiv, 1) := by decide +kernel
theorem d_Mo_certificate_144 : decode b_Mo_certificate 144 = .ok (.lstore_n 3, 1) := by decide +kernel
theorem d_Mo_certificate_145 : decode b_Mo_certificate 145 = .ok (.lload_n 3, 1) := by decide +kernel
theorem d_Mo_certificate_146 : decode b_Mo_certificate 146 = .ok (.ldc2_w 130, 3) := by decide +kernel
theorem d_Mo_certificate_149 : decode b_Mo_certificate 149 = .ok (.lmul, 1) := by decide +kernel
theorem d_Mo_certificate_150 : decode b_Mo_certificate 150 = .ok (.lload_n 1, 1) := by decide +kernel
theorem d_Mo_certificate_151 : decode b_Mo_certificate 151 = .ok (.lcmp, 1) := by decide +kernel
theorem d_Mo_certificate_152 : decode b_Mo_certificate 152 = .ok (.ifCond .le 9, 3) := by decide +kernel
theorem d_Mo_certificate_155 : decode b_Mo_certificate 155 = .ok (.lload_n 3, 1) := by decide +kernel
theorem d_Mo_certificate_156 : decode b_Mo_certificate 156 = .ok (.lconst 1, 1) := by decide +kernel
theorem d_Mo_certificate_157 : decode b_Mo_certificate 157 = .ok (.lsub, 1) := by decide +kernel
theorem d_Mo_certificate_158 : decode b_Mo_certificate 158 = .ok (.goto 4, 3) := by decide +kernel
theorem d_Mo_certificate_161 : decode b_Mo_certificate 161 = .ok (.lload_n 3, 1) := by decide +kernel
theorem d_Mo_certificate_162 : decode b_Mo_certificate 162 = .ok (.lreturn, 1) := by decide +kernel
abbrev b_Mo_contradiction : ByteArray := prog_8_method_26_code
def y_Mo_contradiction : MethodName := ⟨RMo, "contradiction", "()I"⟩
theorem k_Mo_contradiction : Cond.code y_Mo_contradiction b_Mo_contradiction 2 (some .int) ∈ tt := (tt4 81 rfl rfl)
theorem i_Mo_contradiction : Cond.instanceMethod y_Mo_contradiction ∈ tt := (tt4 79 rfl rfl)
theorem l_Mo_contradiction : Cond.selects RMo y_Mo_contradiction y_Mo_contradiction ∈ tt := (tt4 80 rfl rfl)
theorem d_Mo_contradiction_0 : decode b_Mo_contradiction 0 = .ok (.aload_n 0, 1) := by decide +kernel
theorem d_Mo_contradiction_1 : decode b_Mo_contradiction 1 = .ok (.iconst 0, 1) := by decide +kernel
theorem d_Mo_contradiction_2 : decode b_Mo_contradiction 2 = .ok (.putfield 53, 3) := by decide +kernel
theorem d_Mo_contradiction_5 : decode b_Mo_contradiction 5 = .ok (.iconst 0, 1) := by decide +kernel
theorem d_Mo_contradiction_6 : decode b_Mo_contradiction 6 = .ok (.istore_n 1, 1) := by decide +kernel
theorem d_Mo_contradiction_7 : decode b_Mo_contradiction 7 = .ok (.iload_n 1, 1) := by decide +kernel
theorem d_Mo_contradiction_8 : decode b_Mo_contradiction 8 = .ok (.aload_n 0, 1) := by decide +kernel
theorem d_Mo_contradiction_9 : decode b_Mo_contradiction 9 = .ok (.getfield 64, 3) := by decide +kernel
theorem d_Mo_contradiction_12 : decode b_Mo_contradiction 12 = .ok (.aload_n 0, 1) := by decide +kernel
theorem d_Mo_contradiction_13 : decode b_Mo_contradiction 13 = .ok (.getfield 97, 3) := by decide +kernel
theorem d_Mo_contradiction_16 : decode b_Mo_contradiction 16 = .ok (.iadd, 1) := by decide +kernel
theorem d_Mo_contradiction_17 : decode b_Mo_contradiction 17 = .ok (.if_icmp .ge 24, 3) := by decide +kernel
theorem d_Mo_contradiction_20 : decode b_Mo_contradiction 20 = .ok (.aload_n 0, 1) := by decide +kernel
theorem d_Mo_contradiction_21 : decode b_Mo_contradiction 21 = .ok (.iload_n 1, 1) := by decide +kernel
theorem d_Mo_contradiction_22 : decode b_Mo_contradiction 22 = .ok (.aload_n 0, 1) := by decide +kernel
theorem d_Mo_contradiction_23 : decode b_Mo_contradiction 23 = .ok (.getfield 41, 3) := by decide +kernel
theorem d_Mo_contradiction_26 : decode b_Mo_contradiction 26 = .ok (.iconst 0, 1) := by decide +kernel
theorem d_Mo_contradiction_27 : decode b_Mo_contradiction 27 = .ok (.invokevirtual 117, 3) := by decide +kernel
theorem d_Mo_contradiction_30 : decode b_Mo_contradiction 30 = .ok (.ifCond .ne 5, 3) := by decide +kernel
theorem d_Mo_contradiction_33 : decode b_Mo_contradiction 33 = .ok (.iload_n 1, 1) := by decide +kernel
theorem d_Mo_contradiction_34 : decode b_Mo_contradiction 34 = .ok (.ireturn, 1) := by decide +kernel
theorem d_Mo_contradiction_35 : decode b_Mo_contradiction 35 = .ok (.iinc 1 1, 3) := by decide +kernel
theorem d_Mo_contradiction_38 : decode b_Mo_contradiction 38 = .ok (.goto (-31), 3) := by decide +kernel
theorem d_Mo_contradiction_41 : decode b_Mo_contradiction 41 = .ok (.iconst (-1), 1) := by decide +kernel
theorem d_Mo_contradiction_42 : decode b_Mo_contradiction 42 = .ok (.ireturn, 1) := by decide +kernel
abbrev b_Mo_check : ByteArray := prog_8_method_27_code
def y_Mo_check : MethodName := ⟨RMo, "check", "(I)I"⟩
theorem k_Mo_check : Cond.code y_Mo_check b_Mo_check 3 (some .int) ∈ tt := (tt4 85 rfl rfl)
theorem i_Mo_check : Cond.instanceMethod y_Mo_check ∈ tt := (tt4 83 rfl rfl)
theorem l_Mo_check : Cond.selects RMo y_Mo_check y_Mo_check ∈ tt := (tt4 84 rfl rfl)
theorem d_Mo_check_0 : decode b_Mo_check 0 = .ok (.aload_n 0, 1) := by decide +kernel
theorem d_Mo_check_1 : decode b_Mo_check 1 = .ok (.iconst 0, 1) := by decide +kernel
theorem d_Mo_check_2 : decode b_Mo_check 2 = .ok (.putfield 53, 3) := by decide +kernel
theorem d_Mo_check_5 : decode b_Mo_check 5 = .ok (.iconst 0, 1) := by decide +kernel
theorem d_Mo_check_6 : decode b_Mo_check 6 = .ok (.istore_n 2, 1) := by decide +kernel
theorem d_Mo_check_7 : decode b_Mo_check 7 = .ok (.iload_n 2, 1) := by decide +kernel
theorem d_Mo_check_8 : decode b_Mo_check 8 = .ok (.aload_n 0, 1) := by decide +kernel
theorem d_Mo_check_9 : decode b_Mo_check 9 = .ok (.getfield 57, 3) := by decide +kernel
theorem d_Mo_check_12 : decode b_Mo_check 12 = .ok (.if_icmp .ge 43, 3) := by decide +kernel
theorem d_Mo_check_15 : decode b_Mo_check 15 = .ok (.aload_n 0, 1) := by decide +kernel
theorem d_Mo_check_16 : decode b_Mo_check 16 = .ok (.getfield 50, 3) := by decide +kernel
theorem d_Mo_check_19 : decode b_Mo_check 19 = .ok (.iload_n 2, 1) := by decide +kernel
theorem d_Mo_check_20 : decode b_Mo_check 20 = .ok (.iload_n 1, 1) := by decide +kernel
theorem d_Mo_check_21 : decode b_Mo_check 21 = .ok (.bipush 6, 2) := by decide +kernel
theorem d_Mo_check_23 : decode b_Mo_check 23 = .ok (.iload_n 2, 1) := by decide +kernel
theorem d_Mo_check_24 : decode b_Mo_check 24 = .ok (.imul, 1) := by decide +kernel
theorem d_Mo_check_25 : decode b_Mo_check 25 = .ok (.ishr, 1) := by decide +kernel
theorem d_Mo_check_26 : decode b_Mo_check 26 = .ok (.bipush 63, 2) := by decide +kernel
theorem d_Mo_check_28 : decode b_Mo_check 28 = .ok (.iand, 1) := by decide +kernel
theorem d_Mo_check_29 : decode b_Mo_check 29 = .ok (.iastore, 1) := by decide +kernel
theorem d_Mo_check_30 : decode b_Mo_check 30 = .ok (.aload_n 0, 1) := by decide +kernel
theorem d_Mo_check_31 : decode b_Mo_check 31 = .ok (.getfield 50, 3) := by decide +kernel
theorem d_Mo_check_34 : decode b_Mo_check 34 = .ok (.iload_n 2, 1) := by decide +kernel
theorem d_Mo_check_35 : decode b_Mo_check 35 = .ok (.iaload, 1) := by decide +kernel
theorem d_Mo_check_36 : decode b_Mo_check 36 = .ok (.aload_n 0, 1) := by decide +kernel
theorem d_Mo_check_37 : decode b_Mo_check 37 = .ok (.getfield 13, 3) := by decide +kernel
theorem d_Mo_check_40 : decode b_Mo_check 40 = .ok (.iload_n 2, 1) := by decide +kernel
theorem d_Mo_check_41 : decode b_Mo_check 41 = .ok (.iaload, 1) := by decide +kernel
theorem d_Mo_check_42 : decode b_Mo_check 42 = .ok (.if_icmp .le 7, 3) := by decide +kernel
theorem d_Mo_check_45 : decode b_Mo_check 45 = .ok (.iconst 1, 1) := by decide +kernel
theorem d_Mo_check_46 : decode b_Mo_check 46 = .ok (.iload_n 2, 1) := by decide +kernel
theorem d_Mo_check_47 : decode b_Mo_check 47 = .ok (.iadd, 1) := by decide +kernel
theorem d_Mo_check_48 : decode b_Mo_check 48 = .ok (.ireturn, 1) := by decide +kernel
theorem d_Mo_check_49 : decode b_Mo_check 49 = .ok (.iinc 2 1, 3) := by decide +kernel
theorem d_Mo_check_52 : decode b_Mo_check 52 = .ok (.goto (-45), 3) := by decide +kernel
theorem d_Mo_check_55 : decode b_Mo_check 55 = .ok (.iconst 0, 1) := by decide +kernel
theorem d_Mo_check_56 : decode b_Mo_check 56 = .ok (.istore_n 2, 1) := by decide +kernel
theorem d_Mo_check_57 : decode b_Mo_check 57 = .ok (.iload_n 2, 1) := by decide +kernel
theorem d_Mo_check_58 : decode b_Mo_check 58 = .ok (.aload_n 0, 1) := by decide +kernel
theorem d_Mo_check_59 : decode b_Mo_check 59 = .ok (.getfield 64, 3) := by decide +kernel
theorem d_Mo_check_62 : decode b_Mo_check 62 = .ok (.aload_n 0, 1) := by decide +kernel
theorem d_Mo_check_63 : decode b_Mo_check 63 = .ok (.getfield 97, 3) := by decide +kernel
theorem d_Mo_check_66 : decode b_Mo_check 66 = .ok (.iadd, 1) := by decide +kernel
theorem d_Mo_check_67 : decode b_Mo_check 67 = .ok (.if_icmp .ge 30, 3) := by decide +kernel
theorem d_Mo_check_70 : decode b_Mo_check 70 = .ok (.aload_n 0, 1) := by decide +kernel
theorem d_Mo_check_71 : decode b_Mo_check 71 = .ok (.iload_n 2, 1) := by decide +kernel
theorem d_Mo_check_72 : decode b_Mo_check 72 = .ok (.aload_n 0, 1) := by decide +kernel
theorem d_Mo_check_73 : decode b_Mo_check 73 = .ok (.getfield 50, 3) := by decide +kernel
theorem d_Mo_check_76 : decode b_Mo_check 76 = .ok (.aload_n 0, 1) := by decide +kernel
theorem d_Mo_check_77 : decode b_Mo_check 77 = .ok (.getfield 57, 3) := by decide +kernel
theorem d_Mo_check_80 : decode b_Mo_check 80 = .ok (.invokevirtual 117, 3) := by decide +kernel
theorem d_Mo_check_83 : decode b_Mo_check 83 = .ok (.ifCond .ne 8, 3) := by decide +kernel
theorem d_Mo_check_86 : decode b_Mo_check 86 = .ok (.bipush 101, 2) := by decide +kernel
theorem d_Mo_check_88 : decode b_Mo_check 88 = .ok (.iload_n 2, 1) := by decide +kernel
theorem d_Mo_check_89 : decode b_Mo_check 89 = .ok (.iadd, 1) := by decide +kernel
theorem d_Mo_check_90 : decode b_Mo_check 90 = .ok (.ireturn, 1) := by decide +kernel
theorem d_Mo_check_91 : decode b_Mo_check 91 = .ok (.iinc 2 1, 3) := by decide +kernel
theorem d_Mo_check_94 : decode b_Mo_check 94 = .ok (.goto (-37), 3) := by decide +kernel
theorem d_Mo_check_97 : decode b_Mo_check 97 = .ok (.iconst 0, 1) := by decide +kernel
theorem d_Mo_check_98 : decode b_Mo_check 98 = .ok (.ireturn, 1) := by decide +kernel
abbrev b_Mo_follow : ByteArray := prog_8_method_28_code
def y_Mo_follow : MethodName := ⟨RMo, "follow", "(II)I"⟩
theorem k_Mo_follow : Cond.code y_Mo_follow b_Mo_follow 4 (some .int) ∈ tt := (tt4 89 rfl rfl)
theorem i_Mo_follow : Cond.instanceMethod y_Mo_follow ∈ tt := (tt4 87 rfl rfl)
theorem l_Mo_follow : Cond.selects RMo y_Mo_follow y_Mo_follow ∈ tt := (tt4 88 rfl rfl)
theorem d_Mo_follow_0 : decode b_Mo_follow 0 = .ok (.aload_n 0, 1) := by decide +kernel
theorem d_Mo_follow_1 : decode b_Mo_follow 1 = .ok (.iload_n 1, 1) := by decide +kernel
theorem d_Mo_follow_2 : decode b_Mo_follow 2 = .ok (.invokevirtual 94, 3) := by decide +kernel
theorem d_Mo_follow_5 : decode b_Mo_follow 5 = .ok (.ifCond .eq 20, 3) := by decide +kernel
theorem d_Mo_follow_8 : decode b_Mo_follow 8 = .ok (.aload_n 0, 1) := by decide +kernel
theorem d_Mo_follow_9 : decode b_Mo_follow 9 = .ok (.iload_n 2, 1) := by decide +kernel
theorem d_Mo_follow_10 : decode b_Mo_follow 10 = .ok (.invokevirtual 94, 3) := by decide +kernel
theorem d_Mo_follow_13 : decode b_Mo_follow 13 = .ok (.ifCond .eq 12, 3) := by decide +kernel
theorem d_Mo_follow_16 : decode b_Mo_follow 16 = .ok (.iload_n 1, 1) := by decide +kernel
theorem d_Mo_follow_17 : decode b_Mo_follow 17 = .ok (.iload_n 2, 1) := by decide +kernel
theorem d_Mo_follow_18 : decode b_Mo_follow 18 = .ok (.if_icmp .eq 7, 3) := by decide +kernel
theorem d_Mo_follow_21 : decode b_Mo_follow 21 = .ok (.iconst 1, 1) := by decide +kernel
theorem d_Mo_follow_22 : decode b_Mo_follow 22 = .ok (.goto 4, 3) := by decide +kernel
theorem d_Mo_follow_25 : decode b_Mo_follow 25 = .ok (.iconst 0, 1) := by decide +kernel
theorem d_Mo_follow_26 : decode b_Mo_follow 26 = .ok (.istore_n 3, 1) := by decide +kernel
theorem d_Mo_follow_27 : decode b_Mo_follow 27 = .ok (.aload_n 0, 1) := by decide +kernel
theorem d_Mo_follow_28 : decode b_Mo_follow 28 = .ok (.iload_n 3, 1) := by decide +kernel
theorem d_Mo_follow_29 : decode b_Mo_follow 29 = .ok (.iload_n 3, 1) := by decide +kernel
theorem d_Mo_follow_30 : decode b_Mo_follow 30 = .ok (.ifCond .eq 29, 3) := by decide +kernel
theorem d_Mo_follow_33 : decode b_Mo_follow 33 = .ok (.aload_n 0, 1) := by decide +kernel
theorem d_Mo_follow_34 : decode b_Mo_follow 34 = .ok (.getfield 132, 3) := by decide +kernel
theorem d_Mo_follow_37 : decode b_Mo_follow 37 = .ok (.bipush 10, 2) := by decide +kernel
theorem d_Mo_follow_39 : decode b_Mo_follow 39 = .ok (.if_icmp .ge 20, 3) := by decide +kernel
theorem d_Mo_follow_42 : decode b_Mo_follow 42 = .ok (.aload_n 0, 1) := by decide +kernel
theorem d_Mo_follow_43 : decode b_Mo_follow 43 = .ok (.getfield 34, 3) := by decide +kernel
theorem d_Mo_follow_46 : decode b_Mo_follow 46 = .ok (.iconst 5, 1) := by decide +kernel
theorem d_Mo_follow_47 : decode b_Mo_follow 47 = .ok (.iload_n 1, 1) := by decide +kernel
theorem d_Mo_follow_48 : decode b_Mo_follow 48 = .ok (.imul, 1) := by decide +kernel
theorem d_Mo_follow_49 : decode b_Mo_follow 49 = .ok (.iload_n 2, 1) := by decide +kernel
theorem d_Mo_follow_50 : decode b_Mo_follow 50 = .ok (.iadd, 1) := by decide +kernel
theorem d_Mo_follow_51 : decode b_Mo_follow 51 = .ok (.baload, 1) := by decide +kernel
theorem d_Mo_follow_52 : decode b_Mo_follow 52 = .ok (.ifCond .ne 7, 3) := by decide +kernel
theorem d_Mo_follow_55 : decode b_Mo_follow 55 = .ok (.iconst 1, 1) := by decide +kernel
theorem d_Mo_follow_56 : decode b_Mo_follow 56 = .ok (.goto 4, 3) := by decide +kernel
theorem d_Mo_follow_59 : decode b_Mo_follow 59 = .ok (.iconst 0, 1) := by decide +kernel
theorem d_Mo_follow_60 : decode b_Mo_follow 60 = .ok (.invokevirtual 80, 3) := by decide +kernel
theorem d_Mo_follow_63 : decode b_Mo_follow 63 = .ok (.ifCond .ne 5, 3) := by decide +kernel
theorem d_Mo_follow_66 : decode b_Mo_follow 66 = .ok (.iconst 0, 1) := by decide +kernel
theorem d_Mo_follow_67 : decode b_Mo_follow 67 = .ok (.ireturn, 1) := by decide +kernel
theorem d_Mo_follow_68 : decode b_Mo_follow 68 = .ok (.aload_n 0, 1) := by decide +kernel
theorem d_Mo_follow_69 : decode b_Mo_follow 69 = .ok (.getfield 34, 3) := by decide +kernel
theorem d_Mo_follow_72 : decode b_Mo_follow 72 = .ok (.iconst 5, 1) := by decide +kernel
theorem d_Mo_follow_73 : decode b_Mo_follow 73 = .ok (.iload_n 1, 1) := by decide +kernel
theorem d_Mo_follow_74 : decode b_Mo_follow 74 = .ok (.imul, 1) := by decide +kernel
theorem d_Mo_follow_75 : decode b_Mo_follow 75 = .ok (.iload_n 2, 1) := by decide +kernel
theorem d_Mo_follow_76 : decode b_Mo_follow 76 = .ok (.iadd, 1) := by decide +kernel
theorem d_Mo_follow_77 : decode b_Mo_follow 77 = .ok (.iconst 1, 1) := by decide +kernel
theorem d_Mo_follow_78 : decode b_Mo_follow 78 = .ok (.bastore, 1) := by decide +kernel
theorem d_Mo_follow_79 : decode b_Mo_follow 79 = .ok (.aload_n 0, 1) := by decide +kernel
theorem d_Mo_follow_80 : decode b_Mo_follow 80 = .ok (.dup, 1) := by decide +kernel
theorem d_Mo_follow_81 : decode b_Mo_follow 81 = .ok (.getfield 132, 3) := by decide +kernel
theorem d_Mo_follow_84 : decode b_Mo_follow 84 = .ok (.iconst 1, 1) := by decide +kernel
theorem d_Mo_follow_85 : decode b_Mo_follow 85 = .ok (.iadd, 1) := by decide +kernel
theorem d_Mo_follow_86 : decode b_Mo_follow 86 = .ok (.putfield 132, 3) := by decide +kernel
theorem d_Mo_follow_89 : decode b_Mo_follow 89 = .ok (.aload_n 0, 1) := by decide +kernel
theorem d_Mo_follow_90 : decode b_Mo_follow 90 = .ok (.getfield 132, 3) := by decide +kernel
theorem d_Mo_follow_93 : decode b_Mo_follow 93 = .ok (.ireturn, 1) := by decide +kernel
abbrev b_Mo_isChain : ByteArray := prog_8_method_29_code
def y_Mo_isChain : MethodName := ⟨RMo, "isChain", "(II)Z"⟩
theorem k_Mo_isChain : Cond.code y_Mo_isChain b_Mo_isChain 7 (some .boolean) ∈ tt := (tt4 97 rfl rfl)
theorem i_Mo_isChain : Cond.instanceMethod y_Mo_isChain ∈ tt := (tt4 96 rfl rfl)
theorem l_Mo_isChain : Cond.selects RMo y_Mo_isChain y_Mo_isChain ∈ tt := (tt0 24 rfl rfl)
theorem d_Mo_isChain_0 : decode b_Mo_isChain 0 = .ok (.iload_n 1, 1) := by decide +kernel
theorem d_Mo_isChain_1 : decode b_Mo_isChain 1 = .ok (.istore_n 3, 1) := by decide +kernel
theorem d_Mo_isChain_2 : decode b_Mo_isChain 2 = .ok (.iconst 0, 1) := by decide +kernel
theorem d_Mo_isChain_3 : decode b_Mo_isChain 3 = .ok (.istore 4, 2) := by decide +kernel
theorem d_Mo_isChain_5 : decode b_Mo_isChain 5 = .ok (.iload_n 2, 1) := by decide +kernel
theorem d_Mo_isChain_6 : decode b_Mo_isChain 6 = .ok (.iconst 1, 1) := by decide +kernel
theorem d_Mo_isChain_7 : decode b_Mo_isChain 7 = .ok (.isub, 1) := by decide +kernel
theorem d_Mo_isChain_8 : decode b_Mo_isChain 8 = .ok (.istore 5, 2) := by decide +kernel
theorem d_Mo_isChain_10 : decode b_Mo_isChain 10 = .ok (.iload 5, 2) := by decide +kernel
theorem d_Mo_isChain_12 : decode b_Mo_isChain 12 = .ok (.ifCond .lt 88, 3) := by decide +kernel
theorem d_Mo_isChain_15 : decode b_Mo_isChain 15 = .ok (.iload_n 3, 1) := by decide +kernel
theorem d_Mo_isChain_16 : decode b_Mo_isChain 16 = .ok (.iconst 5, 1) := by decide +kernel
theorem d_Mo_isChain_17 : decode b_Mo_isChain 17 = .ok (.irem, 1) := by decide +kernel
theorem d_Mo_isChain_18 : decode b_Mo_isChain 18 = .ok (.istore 6, 2) := by decide +kernel
theorem d_Mo_isChain_20 : decode b_Mo_isChain 20 = .ok (.iload_n 3, 1) := by decide +kernel
theorem d_Mo_isChain_21 : decode b_Mo_isChain 21 = .ok (.iconst 5, 1) := by decide +kernel
theorem d_Mo_isChain_22 : decode b_Mo_isChain 22 = .ok (.idiv, 1) := by decide +kernel
theorem d_Mo_isChain_23 : decode b_Mo_isChain 23 = .ok (.istore_n 3, 1) := by decide +kernel
theorem d_Mo_isChain_24 : decode b_Mo_isChain 24 = .ok (.iload 6, 2) := by decide +kernel
theorem d_Mo_isChain_26 : decode b_Mo_isChain 26 = .ok (.aload_n 0, 1) := by decide +kernel
theorem d_Mo_isChain_27 : decode b_Mo_isChain 27 = .ok (.getfield 57, 3) := by decide +kernel
theorem d_Mo_isChain_30 : decode b_Mo_isChain 30 = .ok (.if_icmp .ge 44, 3) := by decide +kernel
theorem d_Mo_isChain_33 : decode b_Mo_isChain 33 = .ok (.iload 4, 2) := by decide +kernel
theorem d_Mo_isChain_35 : decode b_Mo_isChain 35 = .ok (.iload 6, 2) := by decide +kernel
theorem d_Mo_isChain_37 : decode b_Mo_isChain 37 = .ok (.ishr, 1) := by decide +kernel
theorem d_Mo_isChain_38 : decode b_Mo_isChain 38 = .ok (.iconst 1, 1) := by decide +kernel
theorem d_Mo_isChain_39 : decode b_Mo_isChain 39 = .ok (.iand, 1) := by decide +kernel
theorem d_Mo_isChain_40 : decode b_Mo_isChain 40 = .ok (.iconst 1, 1) := by decide +kernel
theorem d_Mo_isChain_41 : decode b_Mo_isChain 41 = .ok (.if_icmp .eq 33, 3) := by decide +kernel
theorem d_Mo_isChain_44 : decode b_Mo_isChain 44 = .ok (.iload 5, 2) := by decide +kernel
theorem d_Mo_isChain_46 : decode b_Mo_isChain 46 = .ok (.iload_n 2, 1) := by decide +kernel
theorem d_Mo_isChain_47 : decode b_Mo_isChain 47 = .ok (.iconst 1, 1) := by decide +kernel
theorem d_Mo_isChain_48 : decode b_Mo_isChain 48 = .ok (.isub, 1) := by decide +kernel
theorem d_Mo_isChain_49 : decode b_Mo_isChain 49 = .ok (.if_icmp .ge 27, 3) := by decide +kernel
theorem d_Mo_isChain_52 : decode b_Mo_isChain 52 = .ok (.aload_n 0, 1) := by decide +kernel
theorem d_Mo_isChain_53 : decode b_Mo_isChain 53 = .ok (.getfield 34, 3) := by decide +kernel
theorem d_Mo_isChain_56 : decode b_Mo_isChain 56 = .ok (.iconst 5, 1) := by decide +kernel
theorem d_Mo_isChain_57 : decode b_Mo_isChain 57 = .ok (.iload 6, 2) := by decide +kernel
theorem d_Mo_isChain_59 : decode b_Mo_isChain 59 = .ok (.imul, 1) := by decide +kernel
theorem d_Mo_isChain_60 : decode b_Mo_isChain 60 = .ok (.aload_n 0, 1) := by decide +kernel
theorem d_Mo_isChain_61 : decode b_Mo_isChain 61 = .ok (.getfield 47, 3) := by decide +kernel
theorem d_Mo_isChain_64 : decode b_Mo_isChain 64 = .ok (.iload 5, 2) := by decide +kernel
theorem d_Mo_isChain_66 : decode b_Mo_isChain 66 = .ok (.iconst 1, 1) := by decide +kernel
theorem d_Mo_isChain_67 : decode b_Mo_isChain 67 = .ok (.iadd, 1) := by decide +kernel
theorem d_Mo_isChain_68 : decode b_Mo_isChain 68 = .ok (.iaload, 1) := by decide +kernel
theorem d_Mo_isChain_69 : decode b_Mo_isChain 69 = .ok (.iadd, 1) := by decide +kernel
theorem d_Mo_isChain_70 : decode b_Mo_isChain 70 = .ok (.baload, 1) := by decide +kernel
theorem d_Mo_isChain_71 : decode b_Mo_isChain 71 = .ok (.ifCond .ne 5, 3) := by decide +kernel
theorem d_Mo_isChain_74 : decode b_Mo_isChain 74 = .ok (.iconst 0, 1) := by decide +kernel
theorem d_Mo_isChain_75 : decode b_Mo_isChain 75 = .ok (.ireturn, 1) := by decide +kernel
theorem d_Mo_isChain_76 : decode b_Mo_isChain 76 = .ok (.iload 4, 2) := by decide +kernel
theorem d_Mo_isChain_78 : decode b_Mo_isChain 78 = .ok (.iconst 1, 1) := by decide +kernel
theorem d_Mo_isChain_79 : decode b_Mo_isChain 79 = .ok (.iload 6, 2) := by decide +kernel
theorem d_Mo_isChain_81 : decode b_Mo_isChain 81 = .ok (.ishl, 1) := by decide +kernel
theorem d_Mo_isChain_82 : decode b_Mo_isChain 82 = .ok (.ior, 1) := by decide +kernel
theorem d_Mo_isChain_83 : decode b_Mo_isChain 83 = .ok (.istore 4, 2) := by decide +kernel
theorem d_Mo_isChain_85 : decode b_Mo_isChain 85 = .ok (.aload_n 0, 1) := by decide +kernel
theorem d_Mo_isChain_86 : decode b_Mo_isChain 86 = .ok (.getfield 47, 3) := by decide +kernel
theorem d_Mo_isChain_89 : decode b_Mo_isChain 89 = .ok (.iload 5, 2) := by decide +kernel
theorem d_Mo_isChain_91 : decode b_Mo_isChain 91 = .ok (.iload 6, 2) := by decide +kernel
theorem d_Mo_isChain_93 : decode b_Mo_isChain 93 = .ok (.iastore, 1) := by decide +kernel
theorem d_Mo_isChain_94 : decode b_Mo_isChain 94 = .ok (.iinc 5 (-1), 3) := by decide +kernel
theorem d_Mo_isChain_97 : decode b_Mo_isChain 97 = .ok (.goto (-87), 3) := by decide +kernel
theorem d_Mo_isChain_100 : decode b_Mo_isChain 100 = .ok (.iconst 1, 1) := by decide +kernel
theorem d_Mo_isChain_101 : decode b_Mo_isChain 101 = .ok (.ireturn, 1) := by decide +kernel
abbrev b_Mo_chain : ByteArray := prog_8_method_30_code
def y_Mo_chain : MethodName := ⟨RMo, "chain", "(I)I"⟩
theorem k_Mo_chain : Cond.code y_Mo_chain b_Mo_chain 5 (some .int) ∈ tt := (tt4 93 rfl rfl)
theorem i_Mo_chain : Cond.instanceMethod y_Mo_chain ∈ tt := (tt4 91 rfl rfl)
theorem l_Mo_chain : Cond.selects RMo y_Mo_chain y_Mo_chain ∈ tt := (tt4 92 rfl rfl)
theorem d_Mo_chain_0 : decode b_Mo_chain 0 = .ok (.aload_n 0, 1) := by decide +kernel
theorem d_Mo_chain_1 : decode b_Mo_chain 1 = .ok (.iload_n 1, 1) := by decide +kernel
theorem d_Mo_chain_2 : decode b_Mo_chain 2 = .ok (.ifCond .lt 7, 3) := by decide +kernel
theorem d_Mo_chain_5 : decode b_Mo_chain 5 = .ok (.iconst 1, 1) := by decide +kernel
theorem d_Mo_chain_6 : decode b_Mo_chain 6 = .ok (.goto 4, 3) := by decide +kernel
theorem d_Mo_chain_9 : decode b_Mo_chain 9 = .ok (.iconst 0, 1) := by decide +kernel
theorem d_Mo_chain_10 : decode b_Mo_chain 10 = .ok (.iconst 1, 1) := by decide +kernel
theorem d_Mo_chain_11 : decode b_Mo_chain 11 = .ok (.invokevirtual 80, 3) := by decide +kernel
theorem d_Mo_chain_14 : decode b_Mo_chain 14 = .ok (.ifCond .ne 5, 3) := by decide +kernel
theorem d_Mo_chain_17 : decode b_Mo_chain 17 = .ok (.iconst 0, 1) := by decide +kernel
theorem d_Mo_chain_18 : decode b_Mo_chain 18 = .ok (.ireturn, 1) := by decide +kernel
theorem d_Mo_chain_19 : decode b_Mo_chain 19 = .ok (.aload_n 0, 1) := by decide +kernel
theorem d_Mo_chain_20 : decode b_Mo_chain 20 = .ok (.getfield 57, 3) := by decide +kernel
theorem d_Mo_chain_23 : decode b_Mo_chain 23 = .ok (.istore_n 2, 1) := by decide +kernel
theorem d_Mo_chain_24 : decode b_Mo_chain 24 = .ok (.iload_n 2, 1) := by decide +kernel
theorem d_Mo_chain_25 : decode b_Mo_chain 25 = .ok (.ifCond .le 71, 3) := by decide +kernel
theorem d_Mo_chain_28 : decode b_Mo_chain 28 = .ok (.iconst 1, 1) := by decide +kernel
theorem d_Mo_chain_29 : decode b_Mo_chain 29 = .ok (.istore_n 3, 1) := by decide +kernel
theorem d_Mo_chain_30 : decode b_Mo_chain 30 = .ok (.iconst 0, 1) := by decide +kernel
theorem d_Mo_chain_31 : decode b_Mo_chain 31 = .ok (.istore 4, 2) := by decide +kernel
theorem d_Mo_chain_33 : decode b_Mo_chain 33 = .ok (.iload 4, 2) := by decide +kernel
theorem d_Mo_chain_35 : decode b_Mo_chain 35 = .ok (.iload_n 2, 1) := by decide +kernel
theorem d_Mo_chain_36 : decode b_Mo_chain 36 = .ok (.if_icmp .ge 13, 3) := by decide +kernel
theorem d_Mo_chain_39 : decode b_Mo_chain 39 = .ok (.iload_n 3, 1) := by decide +kernel
theorem d_Mo_chain_40 : decode b_Mo_chain 40 = .ok (.iconst 5, 1) := by decide +kernel
theorem d_Mo_chain_41 : decode b_Mo_chain 41 = .ok (.imul, 1) := by decide +kernel
theorem d_Mo_chain_42 : decode b_Mo_chain 42 = .ok (.istore_n 3, 1) := by decide +kernel
theorem d_Mo_chain_43 : decode b_Mo_chain 43 = .ok (.iinc 4 1, 3) := by decide +kernel
theorem d_Mo_chain_46 : decode b_Mo_chain 46 = .ok (.goto (-13), 3) := by decide +kernel
theorem d_Mo_chain_49 : decode b_Mo_chain 49 = .ok (.iconst 0, 1) := by decide +kernel
theorem d_Mo_chain_50 : decode b_Mo_chain 50 = .ok (.istore 4, 2) := by decide +kernel
theorem d_Mo_chain_52 : decode b_Mo_chain 52 = .ok (.iload 4, 2) := by decide +kernel
theorem d_Mo_chain_54 : decode b_Mo_chain 54 = .ok (.iload_n 3, 1) := by decide +kernel
theorem d_Mo_chain_55 : decode b_Mo_chain 55 = .ok (.if_icmp .ge 35, 3) := by decide +kernel
theorem d_Mo_chain_58 : decode b_Mo_chain 58 = .ok (.aload_n 0, 1) := by decide +kernel
theorem d_Mo_chain_59 : decode b_Mo_chain 59 = .ok (.iload 4, 2) := by decide +kernel
theorem d_Mo_chain_61 : decode b_Mo_chain 61 = .ok (.iload_n 2, 1) := by decide +kernel
theorem d_Mo_chain_62 : decode b_Mo_chain 62 = .ok (.invokevirtual 135, 3) := by decide +kernel
theorem d_Mo_chain_65 : decode b_Mo_chain 65 = .ok (.ifCond .eq 19, 3) := by decide +kernel
theorem d_Mo_chain_68 : decode b_Mo_chain 68 = .ok (.iload_n 1, 1) := by decide +kernel
theorem d_Mo_chain_69 : decode b_Mo_chain 69 = .ok (.iload_n 2, 1) := by decide +kernel
theorem d_Mo_chain_70 : decode b_Mo_chain 70 = .ok (.if_icmp .ge 12, 3) := by decide +kernel
theorem d_Mo_chain_73 : decode b_Mo_chain 73 = .ok (.aload_n 0, 1) := by decide +kernel
theorem d_Mo_chain_74 : decode b_Mo_chain 74 = .ok (.getfield 47, 3) := by decide +kernel
theorem d_Mo_chain_77 : decode b_Mo_chain 77 = .ok (.iload_n 1, 1) := by decide +kernel
theorem d_Mo_chain_78 : decode b_Mo_chain 78 = .ok (.iaload, 1) := by decide +kernel
theorem d_Mo_chain_79 : decode b_Mo_chain 79 = .ok (.goto 4, 3) := by decide +kernel
theorem d_Mo_chain_82 : decode b_Mo_chain 82 = .ok (.iconst (-1), 1) := by decide +kernel
theorem d_Mo_chain_83 : decode b_Mo_chain 83 = .ok (.ireturn, 1) := by decide +kernel
theorem d_Mo_chain_84 : decode b_Mo_chain 84 = .ok (.iinc 4 1, 3) := by decide +kernel
theorem d_Mo_chain_87 : decode b_Mo_chain 87 = .ok (.goto (-35), 3) := by decide +kernel
theorem d_Mo_chain_90 : decode b_Mo_chain 90 = .ok (.iinc 2 (-1), 3) := by decide +kernel
theorem d_Mo_chain_93 : decode b_Mo_chain 93 = .ok (.goto (-69), 3) := by decide +kernel
theorem d_Mo_chain_96 : decode b_Mo_chain 96 = .ok (.iconst (-1), 1) := by decide +kernel
theorem d_Mo_chain_97 : decode b_Mo_chain 97 = .ok (.ireturn, 1) := by decide +kernel
end
section
/-! THE REFERENCE'S WORLD: cell 0 the object, cells 1 .. 14 its arrays. components: 0 thrown, 1 columns, 2 rows, 3 cuts, 4 follows, 5 depth, 6 ended, 7 found, 8 steps, 9 bestWorth; 10 worth, 11 top, 12 kind, 13 right, 14 factor, 15 cutA, 16 cutB, 17 multiplier, 18 behind, 19 next, 20 number, 21 best, 22 chain, 23 tried: component c lies in cell c - 9 -/
def mo_obj (ad : Nat → Nat) (σ : oS) : va_E := .inr (6, [.int (σ 0 0 0), .int (σ 1 0 0), .ref (ad 1), .ref (ad 2), .int (σ 2 0 0), .ref (ad 3), .ref (ad 4), .ref (ad 5), .int (σ 3 0 0), .ref (ad 6), .ref (ad 7), .ref (ad 8), .int (σ 4 0 0), .ref (ad 9), .int (σ 5 0 0), .ref (ad 10), .ref (ad 11), .int (σ 6 0 0), .int (σ 7 0 0), .int (σ 8 0 0), .int (σ 9 0 0), .ref (ad 12), .ref (ad 13), .ref (ad 14)])
def mo_n (k : Nat) : Nat := match k with
  | 1 => 5
  | 2 => 5
  | 3 => 4
  | 4 => 4
  | 5 => 20
  | 6 => 4
  | 7 => 4
  | 8 => 8
  | 9 => 25
  | 10 => 5
  | 11 => 5
  | 12 => 5
  | 13 => 5
  | _ => 5
def mc (cI cZ : ClassId) (ad : Nat → Nat) (σ : oS) (k : Nat) : va_E := if k = 0 then mo_obj ad σ else .inl (if k = 9 then cZ else cI, mo_n k, .inl (σ (k + 9) 0))
def mw (cI cZ : ClassId) (ad : Nat → Nat) (σ : oS) : va_W := fw 15 ad (mc cI cZ ad σ)
abbrev mt (cI cZ : ClassId) : List (ClassId × FieldType) := [(cI, .int), (cZ, .boolean)]
def mb_k (c i : Nat) : Nat := if i = 0 then (if c < 10 then 0 else c - 9) else c + 100
section MW
variable {cI cZ : ClassId} {ad : Nat → Nat} {σ τ : oS}
theorem mc_ext {k : Nat} (h : ∀ c, mb_k c 0 = k → σ c 0 = τ c 0) : mc cI cZ ad σ k = mc cI cZ ad τ k := by
  by_cases hk : k = 0
  · subst hk
    simp only [mc, mo_obj, h 0 rfl, h 1 rfl, h 2 rfl, h 3 rfl, h 4 rfl, h 5 rfl, h 6 rfl, h 7 rfl, h 8 rfl, h 9 rfl]
  · unfold mc
    rw [if_neg hk, if_neg hk, h (k + 9) (by unfold mb_k; rw [if_pos rfl, if_neg (by omega)]; omega)]
theorem mw_set {c k : Nat} {f : Nat → Int32} {e : va_E} (hk : mb_k c 0 = k) (he : mc cI cZ ad (uA σ c 0 f) k = e) : (mw cI cZ ad σ).set k (ad k, e) = mw cI cZ ad (uA σ c 0 f) :=
  fw_set he (fun q hq => mc_ext (fun c9 h9 => uA_n (fun z => hq (by rw [← h9, z.1, hk]))))
theorem mw_0 : (mw cI cZ ad σ)[0]? = some (ad 0, .inr (6, [.int (σ 0 0 0), .int (σ 1 0 0), .ref (ad 1), .ref (ad 2), .int (σ 2 0 0), .ref (ad 3), .ref (ad 4), .ref (ad 5), .int (σ 3 0 0), .ref (ad 6), .ref (ad 7), .ref (ad 8), .int (σ 4 0 0), .ref (ad 9), .int (σ 5 0 0), .ref (ad 10), .ref (ad 11), .int (σ 6 0 0), .int (σ 7 0 0), .int (σ 8 0 0), .int (σ 9 0 0), .ref (ad 12), .ref (ad 13), .ref (ad 14)])) := fw_at (by decide)
theorem mw_1 : (mw cI cZ ad σ)[1]? = some (ad 1, .inl (cI, 5, .inl (σ 10 0))) := fw_at (by decide)
theorem mw_2 : (mw cI cZ ad σ)[2]? = some (ad 2, .inl (cI, 5, .inl (σ 11 0))) := fw_at (by decide)
theorem mw_3 : (mw cI cZ ad σ)[3]? = some (ad 3, .inl (cI, 4, .inl (σ 12 0))) := fw_at (by decide)
theorem mw_4 : (mw cI cZ ad σ)[4]? = some (ad 4, .inl (cI, 4, .inl (σ 13 0))) := fw_at (by decide)
theorem mw_5 : (mw cI cZ ad σ)[5]? = some (ad 5, .inl (cI, 20, .inl (σ 14 0))) := fw_at (by decide)
theorem mw_6 : (mw cI cZ ad σ)[6]? = some (ad 6, .inl (cI, 4, .inl (σ 15 0))) := fw_at (by decide)
theorem mw_7 : (mw cI cZ ad σ)[7]? = some (ad 7, .inl (cI, 4, .inl (σ 16 0))) := fw_at (by decide)
theorem mw_8 : (mw cI cZ ad σ)[8]? = some (ad 8, .inl (cI, 8, .inl (σ 17 0))) := fw_at (by decide)
theorem mw_9 : (mw cI cZ ad σ)[9]? = some (ad 9, .inl (cZ, 25, .inl (σ 18 0))) := fw_at (by decide)
theorem mw_10 : (mw cI cZ ad σ)[10]? = some (ad 10, .inl (cI, 5, .inl (σ 19 0))) := fw_at (by decide)
theorem mw_11 : (mw cI cZ ad σ)[11]? = some (ad 11, .inl (cI, 5, .inl (σ 20 0))) := fw_at (by decide)
theorem mw_12 : (mw cI cZ ad σ)[12]? = some (ad 12, .inl (cI, 5, .inl (σ 21 0))) := fw_at (by decide)
theorem mw_13 : (mw cI cZ ad σ)[13]? = some (ad 13, .inl (cI, 5, .inl (σ 22 0))) := fw_at (by decide)
theorem mw_14 : (mw cI cZ ad σ)[14]? = some (ad 14, .inl (cI, 5, .inl (σ 23 0))) := fw_at (by decide)
end MW
section MF
variable {p : Program} {l : Launch} {e : Env} {R : Room} {s : State} {m : MethodId} {args : Array Value} {below : List Frame} {meth : Method} {c : Code} {H : Heap} {locs : List Loc} {cells slots : Nat} {Q : State → Prop}
variable {cc : ByteArray} {pc nL : Nat} {ls : Array Slot} {rest st0 : List Value} {D : va_G} {A : Nat → Prop} {H0 : Heap} {cw : Cond} {cI cZ : ClassId} {ad : Nat → Nat} {σ : oS} {i : Nat}
theorem gf_Mo_thrown (F : CallFix p m c cc nL s args (cw :: tt) RMo) (hK : va_K D vwCl (mt cI cZ) s) (hP : va_P D vwCl (mw cI cZ ad σ) H) (hdg : decode cc pc = .ok (.getfield 53, 3)) (kk : W p l e R s m args below meth c H locs cells slots Q (F0 m (pc + 3) ls (.int (σ 0 0 0) :: rest))) : W p l e R s m args below meth c H locs cells slots Q (F0 m pc ls (.ref (ad 0) :: rest)) :=
  ok_get (C := RMo) (T := TMo) (N := 24) F hK hP (fun w h => List.mem_cons_of_mem _ (wuMo w h)) 0 0 mw_0 rfl (by decide) (List.mem_cons_of_mem _ (tt3 145 rfl rfl)) rfl hdg kk
theorem pf_Mo_thrown {v : Int32} (F : CallFix p m c cc nL s args (cw :: tt) RMo) (hK : va_K D vwCl (mt cI cZ) s) (hP : va_P D vwCl (mw cI cZ ad σ) H) (hD : va_D A (mw cI cZ ad σ)) (hS : va_S A H0 H locs) (hdg : decode cc pc = .ok (.putfield 53, 3)) (kk : ∀ (H1 : Heap) (locs1 : List Loc), va_P D vwCl (mw cI cZ ad (u3 σ 0 0 0 v)) H1 → va_D A (mw cI cZ ad (u3 σ 0 0 0 v)) → va_S A H0 H1 locs1 → W p l e R s m args below meth c H1 locs1 cells slots Q (F0 m (pc + 3) ls rest)) : W p l e R s m args below meth c H locs cells slots Q (F0 m pc ls (.int v :: .ref (ad 0) :: rest)) :=
  ok_put (C := RMo) (T := TMo) (N := 24) (ty := .int) F hK hP hD hS tyMo tkMo nmMo (fun w h => List.mem_cons_of_mem _ (wuMo w h)) 0 0 mw_0 rfl (by decide) (List.mem_cons_of_mem _ (tt3 145 rfl rfl)) rfl (by decide +kernel) rfl rfl (Nat.le_of_ble_eq_true rfl) (mw_set (k := 0) (c := 0) (f := upd (σ 0 0) 0 v) rfl (by simp [mc, mo_obj, uA, upd])) hdg kk
theorem gf_Mo_columns (F : CallFix p m c cc nL s args (cw :: tt) RMo) (hK : va_K D vwCl (mt cI cZ) s) (hP : va_P D vwCl (mw cI cZ ad σ) H) (hdg : decode cc pc = .ok (.getfield 57, 3)) (kk : W p l e R s m args below meth c H locs cells slots Q (F0 m (pc + 3) ls (.int (σ 1 0 0) :: rest))) : W p l e R s m args below meth c H locs cells slots Q (F0 m pc ls (.ref (ad 0) :: rest)) :=
  ok_get (C := RMo) (T := TMo) (N := 24) F hK hP (fun w h => List.mem_cons_of_mem _ (wuMo w h)) 0 1 mw_0 rfl (by decide) (List.mem_cons_of_mem _ (tt3 146 rfl rfl)) rfl hdg kk
theorem pf_Mo_columns {v : Int32} (F : CallFix p m c cc nL s args (cw :: tt) RMo) (hK : va_K D vwCl (mt cI cZ) s) (hP : va_P D vwCl (mw cI cZ ad σ) H) (hD : va_D A (mw cI cZ ad σ)) (hS : va_S A H0 H locs) (hdg : decode cc pc = .ok (.putfield 57, 3)) (kk : ∀ (H1 : Heap) (locs1 : List Loc), va_P D vwCl (mw cI cZ ad (u3 σ 1 0 0 v)) H1 → va_D A (mw cI cZ ad (u3 σ 1 0 0 v)) → va_S A H0 H1 locs1 → W p l e R s m args below meth c H1 locs1 cells slots Q (F0 m (pc + 3) ls rest)) : W p l e R s m args below meth c H locs cells slots Q (F0 m pc ls (.int v :: .ref (ad 0) :: rest)) :=
  ok_put (C := RMo) (T := TMo) (N := 24) (ty := .int) F hK hP hD hS tyMo tkMo nmMo (fun w h => List.mem_cons_of_mem _ (wuMo w h)) 0 1 mw_0 rfl (by decide) (List.mem_cons_of_mem _ (tt3 146 rfl rfl)) rfl (by decide +kernel) rfl rfl (Nat.le_of_ble_eq_true rfl) (mw_set (k := 0) (c := 1) (f := upd (σ 1 0) 0 v) rfl (by simp [mc, mo_obj, uA, upd])) hdg kk
theorem gf_Mo_worth (F : CallFix p m c cc nL s args (cw :: tt) RMo) (hK : va_K D vwCl (mt cI cZ) s) (hP : va_P D vwCl (mw cI cZ ad σ) H) (hdg : decode cc pc = .ok (.getfield 7, 3)) (kk : W p l e R s m args below meth c H locs cells slots Q (F0 m (pc + 3) ls (.ref (ad 1) :: rest))) : W p l e R s m args below meth c H locs cells slots Q (F0 m pc ls (.ref (ad 0) :: rest)) :=
  ok_get (C := RMo) (T := TMo) (N := 24) F hK hP (fun w h => List.mem_cons_of_mem _ (wuMo w h)) 0 2 mw_0 rfl (by decide) (List.mem_cons_of_mem _ (tt3 147 rfl rfl)) rfl hdg kk
theorem gf_Mo_top (F : CallFix p m c cc nL s args (cw :: tt) RMo) (hK : va_K D vwCl (mt cI cZ) s) (hP : va_P D vwCl (mw cI cZ ad σ) H) (hdg : decode cc pc = .ok (.getfield 13, 3)) (kk : W p l e R s m args below meth c H locs cells slots Q (F0 m (pc + 3) ls (.ref (ad 2) :: rest))) : W p l e R s m args below meth c H locs cells slots Q (F0 m pc ls (.ref (ad 0) :: rest)) :=
  ok_get (C := RMo) (T := TMo) (N := 24) F hK hP (fun w h => List.mem_cons_of_mem _ (wuMo w h)) 0 3 mw_0 rfl (by decide) (List.mem_cons_of_mem _ (tt3 148 rfl rfl)) rfl hdg kk
theorem gf_Mo_rows (F : CallFix p m c cc nL s args (cw :: tt) RMo) (hK : va_K D vwCl (mt cI cZ) s) (hP : va_P D vwCl (mw cI cZ ad σ) H) (hdg : decode cc pc = .ok (.getfield 64, 3)) (kk : W p l e R s m args below meth c H locs cells slots Q (F0 m (pc + 3) ls (.int (σ 2 0 0) :: rest))) : W p l e R s m args below meth c H locs cells slots Q (F0 m pc ls (.ref (ad 0) :: rest)) :=
  ok_get (C := RMo) (T := TMo) (N := 24) F hK hP (fun w h => List.mem_cons_of_mem _ (wuMo w h)) 0 4 mw_0 rfl (by decide) (List.mem_cons_of_mem _ (tt3 149 rfl rfl)) rfl hdg kk
theorem pf_Mo_rows {v : Int32} (F : CallFix p m c cc nL s args (cw :: tt) RMo) (hK : va_K D vwCl (mt cI cZ) s) (hP : va_P D vwCl (mw cI cZ ad σ) H) (hD : va_D A (mw cI cZ ad σ)) (hS : va_S A H0 H locs) (hdg : decode cc pc = .ok (.putfield 64, 3)) (kk : ∀ (H1 : Heap) (locs1 : List Loc), va_P D vwCl (mw cI cZ ad (u3 σ 2 0 0 v)) H1 → va_D A (mw cI cZ ad (u3 σ 2 0 0 v)) → va_S A H0 H1 locs1 → W p l e R s m args below meth c H1 locs1 cells slots Q (F0 m (pc + 3) ls rest)) : W p l e R s m args below meth c H locs cells slots Q (F0 m pc ls (.int v :: .ref (ad 0) :: rest)) :=
  ok_put (C := RMo) (T := TMo) (N := 24) (ty := .int) F hK hP hD hS tyMo tkMo nmMo (fun w h => List.mem_cons_of_mem _ (wuMo w h)) 0 4 mw_0 rfl (by decide) (List.mem_cons_of_mem _ (tt3 149 rfl rfl)) rfl (by decide +kernel) rfl rfl (Nat.le_of_ble_eq_true rfl) (mw_set (k := 0) (c := 2) (f := upd (σ 2 0) 0 v) rfl (by simp [mc, mo_obj, uA, upd])) hdg kk
theorem gf_Mo_kind (F : CallFix p m c cc nL s args (cw :: tt) RMo) (hK : va_K D vwCl (mt cI cZ) s) (hP : va_P D vwCl (mw cI cZ ad σ) H) (hdg : decode cc pc = .ok (.getfield 16, 3)) (kk : W p l e R s m args below meth c H locs cells slots Q (F0 m (pc + 3) ls (.ref (ad 3) :: rest))) : W p l e R s m args below meth c H locs cells slots Q (F0 m pc ls (.ref (ad 0) :: rest)) :=
  ok_get (C := RMo) (T := TMo) (N := 24) F hK hP (fun w h => List.mem_cons_of_mem _ (wuMo w h)) 0 5 mw_0 rfl (by decide) (List.mem_cons_of_mem _ (tt3 150 rfl rfl)) rfl hdg kk
theorem gf_Mo_right (F : CallFix p m c cc nL s args (cw :: tt) RMo) (hK : va_K D vwCl (mt cI cZ) s) (hP : va_P D vwCl (mw cI cZ ad σ) H) (hdg : decode cc pc = .ok (.getfield 19, 3)) (kk : W p l e R s m args below meth c H locs cells slots Q (F0 m (pc + 3) ls (.ref (ad 4) :: rest))) : W p l e R s m args below meth c H locs cells slots Q (F0 m pc ls (.ref (ad 0) :: rest)) :=
  ok_get (C := RMo) (T := TMo) (N := 24) F hK hP (fun w h => List.mem_cons_of_mem _ (wuMo w h)) 0 6 mw_0 rfl (by decide) (List.mem_cons_of_mem _ (tt3 151 rfl rfl)) rfl hdg kk
theorem gf_Mo_factor (F : CallFix p m c cc nL s args (cw :: tt) RMo) (hK : va_K D vwCl (mt cI cZ) s) (hP : va_P D vwCl (mw cI cZ ad σ) H) (hdg : decode cc pc = .ok (.getfield 22, 3)) (kk : W p l e R s m args below meth c H locs cells slots Q (F0 m (pc + 3) ls (.ref (ad 5) :: rest))) : W p l e R s m args below meth c H locs cells slots Q (F0 m pc ls (.ref (ad 0) :: rest)) :=
  ok_get (C := RMo) (T := TMo) (N := 24) F hK hP (fun w h => List.mem_cons_of_mem _ (wuMo w h)) 0 7 mw_0 rfl (by decide) (List.mem_cons_of_mem _ (tt3 152 rfl rfl)) rfl hdg kk
theorem gf_Mo_cuts (F : CallFix p m c cc nL s args (cw :: tt) RMo) (hK : va_K D vwCl (mt cI cZ) s) (hP : va_P D vwCl (mw cI cZ ad σ) H) (hdg : decode cc pc = .ok (.getfield 97, 3)) (kk : W p l e R s m args below meth c H locs cells slots Q (F0 m (pc + 3) ls (.int (σ 3 0 0) :: rest))) : W p l e R s m args below meth c H locs cells slots Q (F0 m pc ls (.ref (ad 0) :: rest)) :=
  ok_get (C := RMo) (T := TMo) (N := 24) F hK hP (fun w h => List.mem_cons_of_mem _ (wuMo w h)) 0 8 mw_0 rfl (by decide) (List.mem_cons_of_mem _ (tt3 153 rfl rfl)) rfl hdg kk
theorem pf_Mo_cuts {v : Int32} (F : CallFix p m c cc nL s args (cw :: tt) RMo) (hK : va_K D vwCl (mt cI cZ) s) (hP : va_P D vwCl (mw cI cZ ad σ) H) (hD : va_D A (mw cI cZ ad σ)) (hS : va_S A H0 H locs) (hdg : decode cc pc = .ok (.putfield 97, 3)) (kk : ∀ (H1 : Heap) (locs1 : List Loc), va_P D vwCl (mw cI cZ ad (u3 σ 3 0 0 v)) H1 → va_D A (mw cI cZ ad (u3 σ 3 0 0 v)) → va_S A H0 H1 locs1 → W p l e R s m args below meth c H1 locs1 cells slots Q (F0 m (pc + 3) ls rest)) : W p l e R s m args below meth c H locs cells slots Q (F0 m pc ls (.int v :: .ref (ad 0) :: rest)) :=
  ok_put (C := RMo) (T := TMo) (N := 24) (ty := .int) F hK hP hD hS tyMo tkMo nmMo (fun w h => List.mem_cons_of_mem _ (wuMo w h)) 0 8 mw_0 rfl (by decide) (List.mem_cons_of_mem _ (tt3 153 rfl rfl)) rfl (by decide +kernel) rfl rfl (Nat.le_of_ble_eq_true rfl) (mw_set (k := 0) (c := 3) (f := upd (σ 3 0) 0 v) rfl (by simp [mc, mo_obj, uA, upd])) hdg kk
theorem gf_Mo_cutA (F : CallFix p m c cc nL s args (cw :: tt) RMo) (hK : va_K D vwCl (mt cI cZ) s) (hP : va_P D vwCl (mw cI cZ ad σ) H) (hdg : decode cc pc = .ok (.getfield 25, 3)) (kk : W p l e R s m args below meth c H locs cells slots Q (F0 m (pc + 3) ls (.ref (ad 6) :: rest))) : W p l e R s m args below meth c H locs cells slots Q (F0 m pc ls (.ref (ad 0) :: rest)) :=
  ok_get (C := RMo) (T := TMo) (N := 24) F hK hP (fun w h => List.mem_cons_of_mem _ (wuMo w h)) 0 9 mw_0 rfl (by decide) (List.mem_cons_of_mem _ (tt3 154 rfl rfl)) rfl hdg kk
theorem gf_Mo_cutB (F : CallFix p m c cc nL s args (cw :: tt) RMo) (hK : va_K D vwCl (mt cI cZ) s) (hP : va_P D vwCl (mw cI cZ ad σ) H) (hdg : decode cc pc = .ok (.getfield 28, 3)) (kk : W p l e R s m args below meth c H locs cells slots Q (F0 m (pc + 3) ls (.ref (ad 7) :: rest))) : W p l e R s m args below meth c H locs cells slots Q (F0 m pc ls (.ref (ad 0) :: rest)) :=
  ok_get (C := RMo) (T := TMo) (N := 24) F hK hP (fun w h => List.mem_cons_of_mem _ (wuMo w h)) 0 10 mw_0 rfl (by decide) (List.mem_cons_of_mem _ (tt3 155 rfl rfl)) rfl hdg kk
theorem gf_Mo_multiplier (F : CallFix p m c cc nL s args (cw :: tt) RMo) (hK : va_K D vwCl (mt cI cZ) s) (hP : va_P D vwCl (mw cI cZ ad σ) H) (hdg : decode cc pc = .ok (.getfield 31, 3)) (kk : W p l e R s m args below meth c H locs cells slots Q (F0 m (pc + 3) ls (.ref (ad 8) :: rest))) : W p l e R s m args below meth c H locs cells slots Q (F0 m pc ls (.ref (ad 0) :: rest)) :=
  ok_get (C := RMo) (T := TMo) (N := 24) F hK hP (fun w h => List.mem_cons_of_mem _ (wuMo w h)) 0 11 mw_0 rfl (by decide) (List.mem_cons_of_mem _ (tt3 156 rfl rfl)) rfl hdg kk
theorem gf_Mo_follows (F : CallFix p m c cc nL s args (cw :: tt) RMo) (hK : va_K D vwCl (mt cI cZ) s) (hP : va_P D vwCl (mw cI cZ ad σ) H) (hdg : decode cc pc = .ok (.getfield 132, 3)) (kk : W p l e R s m args below meth c H locs cells slots Q (F0 m (pc + 3) ls (.int (σ 4 0 0) :: rest))) : W p l e R s m args below meth c H locs cells slots Q (F0 m pc ls (.ref (ad 0) :: rest)) :=
  ok_get (C := RMo) (T := TMo) (N := 24) F hK hP (fun w h => List.mem_cons_of_mem _ (wuMo w h)) 0 12 mw_0 rfl (by decide) (List.mem_cons_of_mem _ (tt3 157 rfl rfl)) rfl hdg kk
theorem pf_Mo_follows {v : Int32} (F : CallFix p m c cc nL s args (cw :: tt) RMo) (hK : va_K D vwCl (mt cI cZ) s) (hP : va_P D vwCl (mw cI cZ ad σ) H) (hD : va_D A (mw cI cZ ad σ)) (hS : va_S A H0 H locs) (hdg : decode cc pc = .ok (.putfield 132, 3)) (kk : ∀ (H1 : Heap) (locs1 : List Loc), va_P D vwCl (mw cI cZ ad (u3 σ 4 0 0 v)) H1 → va_D A (mw cI cZ ad (u3 σ 4 0 0 v)) → va_S A H0 H1 locs1 → W p l e R s m args below meth c H1 locs1 cells slots Q (F0 m (pc + 3) ls rest)) : W p l e R s m args below meth c H locs cells slots Q (F0 m pc ls (.int v :: .ref (ad 0) :: rest)) :=
  ok_put (C := RMo) (T := TMo) (N := 24) (ty := .int) F hK hP hD hS tyMo tkMo nmMo (fun w h => List.mem_cons_of_mem _ (wuMo w h)) 0 12 mw_0 rfl (by decide) (List.mem_cons_of_mem _ (tt3 157 rfl rfl)) rfl (by decide +kernel) rfl rfl (Nat.le_of_ble_eq_true rfl) (mw_set (k := 0) (c := 4) (f := upd (σ 4 0) 0 v) rfl (by simp [mc, mo_obj, uA, upd])) hdg kk
theorem gf_Mo_behind (F : CallFix p m c cc nL s args (cw :: tt) RMo) (hK : va_K D vwCl (mt cI cZ) s) (hP : va_P D vwCl (mw cI cZ ad σ) H) (hdg : decode cc pc = .ok (.getfield 34, 3)) (kk : W p l e R s m args below meth c H locs cells slots Q (F0 m (pc + 3) ls (.ref (ad 9) :: rest))) : W p l e R s m args below meth c H locs cells slots Q (F0 m pc ls (.ref (ad 0) :: rest)) :=
  ok_get (C := RMo) (T := TMo) (N := 24) F hK hP (fun w h => List.mem_cons_of_mem _ (wuMo w h)) 0 13 mw_0 rfl (by decide) (List.mem_cons_of_mem _ (tt3 158 rfl rfl)) rfl hdg kk
theorem gf_Mo_depth (F : CallFix p m c cc nL s args (cw :: tt) RMo) (hK : va_K D vwCl (mt cI cZ) s) (hP : va_P D vwCl (mw cI cZ ad σ) H) (hdg : decode cc pc = .ok (.getfield 67, 3)) (kk : W p l e R s m args below meth c H locs cells slots Q (F0 m (pc + 3) ls (.int (σ 5 0 0) :: rest))) : W p l e R s m args below meth c H locs cells slots Q (F0 m pc ls (.ref (ad 0) :: rest)) :=
  ok_get (C := RMo) (T := TMo) (N := 24) F hK hP (fun w h => List.mem_cons_of_mem _ (wuMo w h)) 0 14 mw_0 rfl (by decide) (List.mem_cons_of_mem _ (tt3 159 rfl rfl)) rfl hdg kk
theorem pf_Mo_depth {v : Int32} (F : CallFix p m c cc nL s args (cw :: tt) RMo) (hK : va_K D vwCl (mt cI cZ) s) (hP : va_P D vwCl (mw cI cZ ad σ) H) (hD : va_D A (mw cI cZ ad σ)) (hS : va_S A H0 H locs) (hdg : decode cc pc = .ok (.putfield 67, 3)) (kk : ∀ (H1 : Heap) (locs1 : List Loc), va_P D vwCl (mw cI cZ ad (u3 σ 5 0 0 v)) H1 → va_D A (mw cI cZ ad (u3 σ 5 0 0 v)) → va_S A H0 H1 locs1 → W p l e R s m args below meth c H1 locs1 cells slots Q (F0 m (pc + 3) ls rest)) : W p l e R s m args below meth c H locs cells slots Q (F0 m pc ls (.int v :: .ref (ad 0) :: rest)) :=
  ok_put (C := RMo) (T := TMo) (N := 24) (ty := .int) F hK hP hD hS tyMo tkMo nmMo (fun w h => List.mem_cons_of_mem _ (wuMo w h)) 0 14 mw_0 rfl (by decide) (List.mem_cons_of_mem _ (tt3 159 rfl rfl)) rfl (by decide +kernel) rfl rfl (Nat.le_of_ble_eq_true rfl) (mw_set (k := 0) (c := 5) (f := upd (σ 5 0) 0 v) rfl (by simp [mc, mo_obj, uA, upd])) hdg kk
theorem gf_Mo_next (F : CallFix p m c cc nL s args (cw :: tt) RMo) (hK : va_K D vwCl (mt cI cZ) s) (hP : va_P D vwCl (mw cI cZ ad σ) H) (hdg : decode cc pc = .ok (.getfield 38, 3)) (kk : W p l e R s m args below meth c H locs cells slots Q (F0 m (pc + 3) ls (.ref (ad 10) :: rest))) : W p l e R s m args below meth c H locs cells slots Q (F0 m pc ls (.ref (ad 0) :: rest)) :=
  ok_get (C := RMo) (T := TMo) (N := 24) F hK hP (fun w h => List.mem_cons_of_mem _ (wuMo w h)) 0 15 mw_0 rfl (by decide) (List.mem_cons_of_mem _ (tt3 160 rfl rfl)) rfl hdg kk
theorem gf_Mo_number (F : CallFix p m c cc nL s args (cw :: tt) RMo) (hK : va_K D vwCl (mt cI cZ) s) (hP : va_P D vwCl (mw cI cZ ad σ) H) (hdg : decode cc pc = .ok (.getfield 41, 3)) (kk : W p l e R s m args below meth c H locs cells slots Q (F0 m (pc + 3) ls (.ref (ad 11) :: rest))) : W p l e R s m args below meth c H locs cells slots Q (F0 m pc ls (.ref (ad 0) :: rest)) :=
  ok_get (C := RMo) (T := TMo) (N := 24) F hK hP (fun w h => List.mem_cons_of_mem _ (wuMo w h)) 0 16 mw_0 rfl (by decide) (List.mem_cons_of_mem _ (tt3 161 rfl rfl)) rfl hdg kk
theorem gf_Mo_ended (F : CallFix p m c cc nL s args (cw :: tt) RMo) (hK : va_K D vwCl (mt cI cZ) s) (hP : va_P D vwCl (mw cI cZ ad σ) H) (hdg : decode cc pc = .ok (.getfield 70, 3)) (kk : W p l e R s m args below meth c H locs cells slots Q (F0 m (pc + 3) ls (.int (σ 6 0 0) :: rest))) : W p l e R s m args below meth c H locs cells slots Q (F0 m pc ls (.ref (ad 0) :: rest)) :=
  ok_get (C := RMo) (T := TMo) (N := 24) F hK hP (fun w h => List.mem_cons_of_mem _ (wuMo w h)) 0 17 mw_0 rfl (by decide) (List.mem_cons_of_mem _ (tt3 162 rfl rfl)) rfl hdg kk
theorem pf_Mo_ended {v : Int32} (F : CallFix p m c cc nL s args (cw :: tt) RMo) (hK : va_K D vwCl (mt cI cZ) s) (hP : va_P D vwCl (mw cI cZ ad σ) H) (hD : va_D A (mw cI cZ ad σ)) (hS : va_S A H0 H locs) (hz : narrow .boolean (.int v) = .int v) (hz2 : fits .boolean (.int v) = true) (hdg : decode cc pc = .ok (.putfield 70, 3)) (kk : ∀ (H1 : Heap) (locs1 : List Loc), va_P D vwCl (mw cI cZ ad (u3 σ 6 0 0 v)) H1 → va_D A (mw cI cZ ad (u3 σ 6 0 0 v)) → va_S A H0 H1 locs1 → W p l e R s m args below meth c H1 locs1 cells slots Q (F0 m (pc + 3) ls rest)) : W p l e R s m args below meth c H locs cells slots Q (F0 m pc ls (.int v :: .ref (ad 0) :: rest)) :=
  ok_put (C := RMo) (T := TMo) (N := 24) (ty := .boolean) F hK hP hD hS tyMo tkMo nmMo (fun w h => List.mem_cons_of_mem _ (wuMo w h)) 0 17 mw_0 rfl (by decide) (List.mem_cons_of_mem _ (tt3 162 rfl rfl)) rfl (by decide +kernel) hz hz2 (Nat.le_of_ble_eq_true rfl) (mw_set (k := 0) (c := 6) (f := upd (σ 6 0) 0 v) rfl (by simp [mc, mo_obj, uA, upd])) hdg kk
theorem gf_Mo_found (F : CallFix p m c cc nL s args (cw :: tt) RMo) (hK : va_K D vwCl (mt cI cZ) s) (hP : va_P D vwCl (mw cI cZ ad σ) H) (hdg : decode cc pc = .ok (.getfield 74, 3)) (kk : W p l e R s m args below meth c H locs cells slots Q (F0 m (pc + 3) ls (.int (σ 7 0 0) :: rest))) : W p l e R s m args below meth c H locs cells slots Q (F0 m pc ls (.ref (ad 0) :: rest)) :=
  ok_get (C := RMo) (T := TMo) (N := 24) F hK hP (fun w h => List.mem_cons_of_mem _ (wuMo w h)) 0 18 mw_0 rfl (by decide) (List.mem_cons_of_mem _ (tt3 163 rfl rfl)) rfl hdg kk
theorem pf_Mo_found {v : Int32} (F : CallFix p m c cc nL s args (cw :: tt) RMo) (hK : va_K D vwCl (mt cI cZ) s) (hP : va_P D vwCl (mw cI cZ ad σ) H) (hD : va_D A (mw cI cZ ad σ)) (hS : va_S A H0 H locs) (hz : narrow .boolean (.int v) = .int v) (hz2 : fits .boolean (.int v) = true) (hdg : decode cc pc = .ok (.putfield 74, 3)) (kk : ∀ (H1 : Heap) (locs1 : List Loc), va_P D vwCl (mw cI cZ ad (u3 σ 7 0 0 v)) H1 → va_D A (mw cI cZ ad (u3 σ 7 0 0 v)) → va_S A H0 H1 locs1 → W p l e R s m args below meth c H1 locs1 cells slots Q (F0 m (pc + 3) ls rest)) : W p l e R s m args below meth c H locs cells slots Q (F0 m pc ls (.int v :: .ref (ad 0) :: rest)) :=
  ok_put (C := RMo) (T := TMo) (N := 24) (ty := .boolean) F hK hP hD hS tyMo tkMo nmMo (fun w h => List.mem_cons_of_mem _ (wuMo w h)) 0 18 mw_0 rfl (by decide) (List.mem_cons_of_mem _ (tt3 163 rfl rfl)) rfl (by decide +kernel) hz hz2 (Nat.le_of_ble_eq_true rfl) (mw_set (k := 0) (c := 7) (f := upd (σ 7 0) 0 v) rfl (by simp [mc, mo_obj, uA, upd])) hdg kk
theorem gf_Mo_steps (F : CallFix p m c cc nL s args (cw :: tt) RMo) (hK : va_K D vwCl (mt cI cZ) s) (hP : va_P D vwCl (mw cI cZ ad σ) H) (hdg : decode cc pc = .ok (.getfield 77, 3)) (kk : W p l e R s m args below meth c H locs cells slots Q (F0 m (pc + 3) ls (.int (σ 8 0 0) :: rest))) : W p l e R s m args below meth c H locs cells slots Q (F0 m pc ls (.ref (ad 0) :: rest)) :=
  ok_get (C := RMo) (T := TMo) (N := 24) F hK hP (fun w h => List.mem_cons_of_mem _ (wuMo w h)) 0 19 mw_0 rfl (by decide) (List.mem_cons_of_mem _ (tt3 164 rfl rfl)) rfl hdg kk
theorem pf_Mo_steps {v : Int32} (F : CallFix p m c cc nL s args (cw :: tt) RMo) (hK : va_K D vwCl (mt cI cZ) s) (hP : va_P D vwCl (mw cI cZ ad σ) H) (hD : va_D A (mw cI cZ ad σ)) (hS : va_S A H0 H locs) (hdg : decode cc pc = .ok (.putfield 77, 3)) (kk : ∀ (H1 : Heap) (locs1 : List Loc), va_P D vwCl (mw cI cZ ad (u3 σ 8 0 0 v)) H1 → va_D A (mw cI cZ ad (u3 σ 8 0 0 v)) → va_S A H0 H1 locs1 → W p l e R s m args below meth c H1 locs1 cells slots Q (F0 m (pc + 3) ls rest)) : W p l e R s m args below meth c H locs cells slots Q (F0 m pc ls (.int v :: .ref (ad 0) :: rest)) :=
  ok_put (C := RMo) (T := TMo) (N := 24) (ty := .int) F hK hP hD hS tyMo tkMo nmMo (fun w h => List.mem_cons_of_mem _ (wuMo w h)) 0 19 mw_0 rfl (by decide) (List.mem_cons_of_mem _ (tt3 164 rfl rfl)) rfl (by decide +kernel) rfl rfl (Nat.le_of_ble_eq_true rfl) (mw_set (k := 0) (c := 8) (f := upd (σ 8 0) 0 v) rfl (by simp [mc, mo_obj, uA, upd])) hdg kk
theorem gf_Mo_bestWorth (F : CallFix p m c cc nL s args (cw :: tt) RMo) (hK : va_K D vwCl (mt cI cZ) s) (hP : va_P D vwCl (mw cI cZ ad σ) H) (hdg : decode cc pc = .ok (.getfield 114, 3)) (kk : W p l e R s m args below meth c H locs cells slots Q (F0 m (pc + 3) ls (.int (σ 9 0 0) :: rest))) : W p l e R s m args below meth c H locs cells slots Q (F0 m pc ls (.ref (ad 0) :: rest)) :=
  ok_get (C := RMo) (T := TMo) (N := 24) F hK hP (fun w h => List.mem_cons_of_mem _ (wuMo w h)) 0 20 mw_0 rfl (by decide) (List.mem_cons_of_mem _ (tt3 165 rfl rfl)) rfl hdg kk
theorem pf_Mo_bestWorth {v : Int32} (F : CallFix p m c cc nL s args (cw :: tt) RMo) (hK : va_K D vwCl (mt cI cZ) s) (hP : va_P D vwCl (mw cI cZ ad σ) H) (hD : va_D A (mw cI cZ ad σ)) (hS : va_S A H0 H locs) (hdg : decode cc pc = .ok (.putfield 114, 3)) (kk : ∀ (H1 : Heap) (locs1 : List Loc), va_P D vwCl (mw cI cZ ad (u3 σ 9 0 0 v)) H1 → va_D A (mw cI cZ ad (u3 σ 9 0 0 v)) → va_S A H0 H1 locs1 → W p l e R s m args below meth c H1 locs1 cells slots Q (F0 m (pc + 3) ls rest)) : W p l e R s m args below meth c H locs cells slots Q (F0 m pc ls (.int v :: .ref (ad 0) :: rest)) :=
  ok_put (C := RMo) (T := TMo) (N := 24) (ty := .int) F hK hP hD hS tyMo tkMo nmMo (fun w h => List.mem_cons_of_mem _ (wuMo w h)) 0 20 mw_0 rfl (by decide) (List.mem_cons_of_mem _ (tt3 165 rfl rfl)) rfl (by decide +kernel) rfl rfl (Nat.le_of_ble_eq_true rfl) (mw_set (k := 0) (c := 9) (f := upd (σ 9 0) 0 v) rfl (by simp [mc, mo_obj, uA, upd])) hdg kk
theorem gf_Mo_best (F : CallFix p m c cc nL s args (cw :: tt) RMo) (hK : va_K D vwCl (mt cI cZ) s) (hP : va_P D vwCl (mw cI cZ ad σ) H) (hdg : decode cc pc = .ok (.getfield 44, 3)) (kk : W p l e R s m args below meth c H locs cells slots Q (F0 m (pc + 3) ls (.ref (ad 12) :: rest))) : W p l e R s m args below meth c H locs cells slots Q (F0 m pc ls (.ref (ad 0) :: rest)) :=
  ok_get (C := RMo) (T := TMo) (N := 24) F hK hP (fun w h => List.mem_cons_of_mem _ (wuMo w h)) 0 21 mw_0 rfl (by decide) (List.mem_cons_of_mem _ (tt3 166 rfl rfl)) rfl hdg kk
theorem gf_Mo_chain (F : CallFix p m c cc nL s args (cw :: tt) RMo) (hK : va_K D vwCl (mt cI cZ) s) (hP : va_P D vwCl (mw cI cZ ad σ) H) (hdg : decode cc pc = .ok (.getfield 47, 3)) (kk : W p l e R s m args below meth c H locs cells slots Q (F0 m (pc + 3) ls (.ref (ad 13) :: rest))) : W p l e R s m args below meth c H locs cells slots Q (F0 m pc ls (.ref (ad 0) :: rest)) :=
  ok_get (C := RMo) (T := TMo) (N := 24) F hK hP (fun w h => List.mem_cons_of_mem _ (wuMo w h)) 0 22 mw_0 rfl (by decide) (List.mem_cons_of_mem _ (tt3 167 rfl rfl)) rfl hdg kk
theorem gf_Mo_tried (F : CallFix p m c cc nL s args (cw :: tt) RMo) (hK : va_K D vwCl (mt cI cZ) s) (hP : va_P D vwCl (mw cI cZ ad σ) H) (hdg : decode cc pc = .ok (.getfield 50, 3)) (kk : W p l e R s m args below meth c H locs cells slots Q (F0 m (pc + 3) ls (.ref (ad 14) :: rest))) : W p l e R s m args below meth c H locs cells slots Q (F0 m pc ls (.ref (ad 0) :: rest)) :=
  ok_get (C := RMo) (T := TMo) (N := 24) F hK hP (fun w h => List.mem_cons_of_mem _ (wuMo w h)) 0 23 mw_0 rfl (by decide) (List.mem_cons_of_mem _ (tt3 168 rfl rfl)) rfl hdg kk
theorem im_10 {x : Int32} {j : Nat} {own : String} (F : CallFix p m c cc nL s args (cw :: tt) own) (hK : va_K D vwCl (mt cI cZ) s) (hP : va_P D vwCl (mw cI cZ ad σ) H) (hx : x = nI j) (hj : j < 5) (hdg : decode cc pc = .ok (.iaload, 1)) (kk : W p l e R s m args below meth c H locs cells slots Q (F0 m (pc + 1) ls (.int (σ 10 0 j) :: rest))) : W p l e R s m args below meth c H locs cells slots Q (F0 m pc ls (.int x :: .ref (ad 1) :: rest)) :=
  ok_iald F hK hP 1 0 mw_1 rfl hx hj (by decide) hdg kk
theorem sm_10 {x v : Int32} {j : Nat} {own : String} (F : CallFix p m c cc nL s args (cw :: tt) own) (hK : va_K D vwCl (mt cI cZ) s) (hP : va_P D vwCl (mw cI cZ ad σ) H) (hD : va_D A (mw cI cZ ad σ)) (hS : va_S A H0 H locs) (hx : x = nI j) (hj : j < 5) (hdg : decode cc pc = .ok (.iastore, 1)) (kk : ∀ (H1 : Heap) (locs1 : List Loc), va_P D vwCl (mw cI cZ ad (u3 σ 10 0 j v)) H1 → va_D A (mw cI cZ ad (u3 σ 10 0 j v)) → va_S A H0 H1 locs1 → W p l e R s m args below meth c H1 locs1 cells slots Q (F0 m (pc + 1) ls rest)) : W p l e R s m args below meth c H locs cells slots Q (F0 m pc ls (.int v :: .int x :: .ref (ad 1) :: rest)) :=
  ok_iast F hK hP hD hS 1 0 mw_1 rfl hx hj (by decide) (mw_set (k := 1) (c := 10) (f := upd (σ 10 0) j v) rfl (by simp [mc, mo_n, uA])) hdg kk
theorem im_11 {x : Int32} {j : Nat} {own : String} (F : CallFix p m c cc nL s args (cw :: tt) own) (hK : va_K D vwCl (mt cI cZ) s) (hP : va_P D vwCl (mw cI cZ ad σ) H) (hx : x = nI j) (hj : j < 5) (hdg : decode cc pc = .ok (.iaload, 1)) (kk : W p l e R s m args below meth c H locs cells slots Q (F0 m (pc + 1) ls (.int (σ 11 0 j) :: rest))) : W p l e R s m args below meth c H locs cells slots Q (F0 m pc ls (.int x :: .ref (ad 2) :: rest)) :=
  ok_iald F hK hP 2 0 mw_2 rfl hx hj (by decide) hdg kk
theorem sm_11 {x v : Int32} {j : Nat} {own : String} (F : CallFix p m c cc nL s args (cw :: tt) own) (hK : va_K D vwCl (mt cI cZ) s) (hP : va_P D vwCl (mw cI cZ ad σ) H) (hD : va_D A (mw cI cZ ad σ)) (hS : va_S A H0 H locs) (hx : x = nI j) (hj : j < 5) (hdg : decode cc pc = .ok (.iastore, 1)) (kk : ∀ (H1 : Heap) (locs1 : List Loc), va_P D vwCl (mw cI cZ ad (u3 σ 11 0 j v)) H1 → va_D A (mw cI cZ ad (u3 σ 11 0 j v)) → va_S A H0 H1 locs1 → W p l e R s m args below meth c H1 locs1 cells slots Q (F0 m (pc + 1) ls rest)) : W p l e R s m args below meth c H locs cells slots Q (F0 m pc ls (.int v :: .int x :: .ref (ad 2) :: rest)) :=
  ok_iast F hK hP hD hS 2 0 mw_2 rfl hx hj (by decide) (mw_set (k := 2) (c := 11) (f := upd (σ 11 0) j v) rfl (by simp [mc, mo_n, uA])) hdg kk
theorem im_12 {x : Int32} {j : Nat} {own : String} (F : CallFix p m c cc nL s args (cw :: tt) own) (hK : va_K D vwCl (mt cI cZ) s) (hP : va_P D vwCl (mw cI cZ ad σ) H) (hx : x = nI j) (hj : j < 4) (hdg : decode cc pc = .ok (.iaload, 1)) (kk : W p l e R s m args below meth c H locs cells slots Q (F0 m (pc + 1) ls (.int (σ 12 0 j) :: rest))) : W p l e R s m args below meth c H locs cells slots Q (F0 m pc ls (.int x :: .ref (ad 3) :: rest)) :=
  ok_iald F hK hP 3 0 mw_3 rfl hx hj (by decide) hdg kk
theorem sm_12 {x v : Int32} {j : Nat} {own : String} (F : CallFix p m c cc nL s args (cw :: tt) own) (hK : va_K D vwCl (mt cI cZ) s) (hP : va_P D vwCl (mw cI cZ ad σ) H) (hD : va_D A (mw cI cZ ad σ)) (hS : va_S A H0 H locs) (hx : x = nI j) (hj : j < 4) (hdg : decode cc pc = .ok (.iastore, 1)) (kk : ∀ (H1 : Heap) (locs1 : List Loc), va_P D vwCl (mw cI cZ ad (u3 σ 12 0 j v)) H1 → va_D A (mw cI cZ ad (u3 σ 12 0 j v)) → va_S A H0 H1 locs1 → W p l e R s m args below meth c H1 locs1 cells slots Q (F0 m (pc + 1) ls rest)) : W p l e R s m args below meth c H locs cells slots Q (F0 m pc ls (.int v :: .int x :: .ref (ad 3) :: rest)) :=
  ok_iast F hK hP hD hS 3 0 mw_3 rfl hx hj (by decide) (mw_set (k := 3) (c := 12) (f := upd (σ 12 0) j v) rfl (by simp [mc, mo_n, uA])) hdg kk
theorem im_13 {x : Int32} {j : Nat} {own : String} (F : CallFix p m c cc nL s args (cw :: tt) own) (hK : va_K D vwCl (mt cI cZ) s) (hP : va_P D vwCl (mw cI cZ ad σ) H) (hx : x = nI j) (hj : j < 4) (hdg : decode cc pc = .ok (.iaload, 1)) (kk : W p l e R s m args below meth c H locs cells slots Q (F0 m (pc + 1) ls (.int (σ 13 0 j) :: rest))) : W p l e R s m args below meth c H locs cells slots Q (F0 m pc ls (.int x :: .ref (ad 4) :: rest)) :=
  ok_iald F hK hP 4 0 mw_4 rfl hx hj (by decide) hdg kk
theorem sm_13 {x v : Int32} {j : Nat} {own : String} (F : CallFix p m c cc nL s args (cw :: tt) own) (hK : va_K D vwCl (mt cI cZ) s) (hP : va_P D vwCl (mw cI cZ ad σ) H) (hD : va_D A (mw cI cZ ad σ)) (hS : va_S A H0 H locs) (hx : x = nI j) (hj : j < 4) (hdg : decode cc pc = .ok (.iastore, 1)) (kk : ∀ (H1 : Heap) (locs1 : List Loc), va_P D vwCl (mw cI cZ ad (u3 σ 13 0 j v)) H1 → va_D A (mw cI cZ ad (u3 σ 13 0 j v)) → va_S A H0 H1 locs1 → W p l e R s m args below meth c H1 locs1 cells slots Q (F0 m (pc + 1) ls rest)) : W p l e R s m args below meth c H locs cells slots Q (F0 m pc ls (.int v :: .int x :: .ref (ad 4) :: rest)) :=
  ok_iast F hK hP hD hS 4 0 mw_4 rfl hx hj (by decide) (mw_set (k := 4) (c := 13) (f := upd (σ 13 0) j v) rfl (by simp [mc, mo_n, uA])) hdg kk
theorem im_14 {x : Int32} {j : Nat} {own : String} (F : CallFix p m c cc nL s args (cw :: tt) own) (hK : va_K D vwCl (mt cI cZ) s) (hP : va_P D vwCl (mw cI cZ ad σ) H) (hx : x = nI j) (hj : j < 20) (hdg : decode cc pc = .ok (.iaload, 1)) (kk : W p l e R s m args below meth c H locs cells slots Q (F0 m (pc + 1) ls (.int (σ 14 0 j) :: rest))) : W p l e R s m args below meth c H locs cells slots Q (F0 m pc ls (.int x :: .ref (ad 5) :: rest)) :=
  ok_iald F hK hP 5 0 mw_5 rfl hx hj (by decide) hdg kk
theorem sm_14 {x v : Int32} {j : Nat} {own : String} (F : CallFix p m c cc nL s args (cw :: tt) own) (hK : va_K D vwCl (mt cI cZ) s) (hP : va_P D vwCl (mw cI cZ ad σ) H) (hD : va_D A (mw cI cZ ad σ)) (hS : va_S A H0 H locs) (hx : x = nI j) (hj : j < 20) (hdg : decode cc pc = .ok (.iastore, 1)) (kk : ∀ (H1 : Heap) (locs1 : List Loc), va_P D vwCl (mw cI cZ ad (u3 σ 14 0 j v)) H1 → va_D A (mw cI cZ ad (u3 σ 14 0 j v)) → va_S A H0 H1 locs1 → W p l e R s m args below meth c H1 locs1 cells slots Q (F0 m (pc + 1) ls rest)) : W p l e R s m args below meth c H locs cells slots Q (F0 m pc ls (.int v :: .int x :: .ref (ad 5) :: rest)) :=
  ok_iast F hK hP hD hS 5 0 mw_5 rfl hx hj (by decide) (mw_set (k := 5) (c := 14) (f := upd (σ 14 0) j v) rfl (by simp [mc, mo_n, uA])) hdg kk
theorem im_15 {x : Int32} {j : Nat} {own : String} (F : CallFix p m c cc nL s args (cw :: tt) own) (hK : va_K D vwCl (mt cI cZ) s) (hP : va_P D vwCl (mw cI cZ ad σ) H) (hx : x = nI j) (hj : j < 4) (hdg : decode cc pc = .ok (.iaload, 1)) (kk : W p l e R s m args below meth c H locs cells slots Q (F0 m (pc + 1) ls (.int (σ 15 0 j) :: rest))) : W p l e R s m args below meth c H locs cells slots Q (F0 m pc ls (.int x :: .ref (ad 6) :: rest)) :=
  ok_iald F hK hP 6 0 mw_6 rfl hx hj (by decide) hdg kk
theorem sm_15 {x v : Int32} {j : Nat} {own : String} (F : CallFix p m c cc nL s args (cw :: tt) own) (hK : va_K D vwCl (mt cI cZ) s) (hP : va_P D vwCl (mw cI cZ ad σ) H) (hD : va_D A (mw cI cZ ad σ)) (hS : va_S A H0 H locs) (hx : x = nI j) (hj : j < 4) (hdg : decode cc pc = .ok (.iastore, 1)) (kk : ∀ (H1 : Heap) (locs1 : List Loc), va_P D vwCl (mw cI cZ ad (u3 σ 15 0 j v)) H1 → va_D A (mw cI cZ ad (u3 σ 15 0 j v)) → va_S A H0 H1 locs1 → W p l e R s m args below meth c H1 locs1 cells slots Q (F0 m (pc + 1) ls rest)) : W p l e R s m args below meth c H locs cells slots Q (F0 m pc ls (.int v :: .int x :: .ref (ad 6) :: rest)) :=
  ok_iast F hK hP hD hS 6 0 mw_6 rfl hx hj (by decide) (mw_set (k := 6) (c := 15) (f := upd (σ 15 0) j v) rfl (by simp [mc, mo_n, uA])) hdg kk
theorem im_16 {x : Int32} {j : Nat} {own : String} (F : CallFix p m c cc nL s args (cw :: tt) own) (hK : va_K D vwCl (mt cI cZ) s) (hP : va_P D vwCl (mw cI cZ ad σ) H) (hx : x = nI j) (hj : j < 4) (hdg : decode cc pc = .ok (.iaload, 1)) (kk : W p l e R s m args below meth c H locs cells slots Q (F0 m (pc + 1) ls (.int (σ 16 0 j) :: rest))) : W p l e R s m args below meth c H locs cells slots Q (F0 m pc ls (.int x :: .ref (ad 7) :: rest)) :=
  ok_iald F hK hP 7 0 mw_7 rfl hx hj (by decide) hdg kk
theorem sm_16 {x v : Int32} {j : Nat} {own : String} (F : CallFix p m c cc nL s args (cw :: tt) own) (hK : va_K D vwCl (mt cI cZ) s) (hP : va_P D vwCl (mw cI cZ ad σ) H) (hD : va_D A (mw cI cZ ad σ)) (hS : va_S A H0 H locs) (hx : x = nI j) (hj : j < 4) (hdg : decode cc pc = .ok (.iastore, 1)) (kk : ∀ (H1 : Heap) (locs1 : List Loc), va_P D vwCl (mw cI cZ ad (u3 σ 16 0 j v)) H1 → va_D A (mw cI cZ ad (u3 σ 16 0 j v)) → va_S A H0 H1 locs1 → W p l e R s m args below meth c H1 locs1 cells slots Q (F0 m (pc + 1) ls rest)) : W p l e R s m args below meth c H locs cells slots Q (F0 m pc ls (.int v :: .int x :: .ref (ad 7) :: rest)) :=
  ok_iast F hK hP hD hS 7 0 mw_7 rfl hx hj (by decide) (mw_set (k := 7) (c := 16) (f := upd (σ 16 0) j v) rfl (by simp [mc, mo_n, uA])) hdg kk
theorem im_17 {x : Int32} {j : Nat} {own : String} (F : CallFix p m c cc nL s args (cw :: tt) own) (hK : va_K D vwCl (mt cI cZ) s) (hP : va_P D vwCl (mw cI cZ ad σ) H) (hx : x = nI j) (hj : j < 8) (hdg : decode cc pc = .ok (.iaload, 1)) (kk : W p l e R s m args below meth c H locs cells slots Q (F0 m (pc + 1) ls (.int (σ 17 0 j) :: rest))) : W p l e R s m args below meth c H locs cells slots Q (F0 m pc ls (.int x :: .ref (ad 8) :: rest)) :=
  ok_iald F hK hP 8 0 mw_8 rfl hx hj (by decide) hdg kk
theorem sm_17 {x v : Int32} {j : Nat} {own : String} (F : CallFix p m c cc nL s args (cw :: tt) own) (hK : va_K D vwCl (mt cI cZ) s) (hP : va_P D vwCl (mw cI cZ ad σ) H) (hD : va_D A (mw cI cZ ad σ)) (hS : va_S A H0 H locs) (hx : x = nI j) (hj : j < 8) (hdg : decode cc pc = .ok (.iastore, 1)) (kk : ∀ (H1 : Heap) (locs1 : List Loc), va_P D vwCl (mw cI cZ ad (u3 σ 17 0 j v)) H1 → va_D A (mw cI cZ ad (u3 σ 17 0 j v)) → va_S A H0 H1 locs1 → W p l e R s m args below meth c H1 locs1 cells slots Q (F0 m (pc + 1) ls rest)) : W p l e R s m args below meth c H locs cells slots Q (F0 m pc ls (.int v :: .int x :: .ref (ad 8) :: rest)) :=
  ok_iast F hK hP hD hS 8 0 mw_8 rfl hx hj (by decide) (mw_set (k := 8) (c := 17) (f := upd (σ 17 0) j v) rfl (by simp [mc, mo_n, uA])) hdg kk
theorem im_18 {x : Int32} {j : Nat} {own : String} (F : CallFix p m c cc nL s args (cw :: tt) own) (hK : va_K D vwCl (mt cI cZ) s) (hP : va_P D vwCl (mw cI cZ ad σ) H) (hx : x = nI j) (hj : j < 25) (hdg : decode cc pc = .ok (.baload, 1)) (kk : W p l e R s m args below meth c H locs cells slots Q (F0 m (pc + 1) ls (.int (σ 18 0 j) :: rest))) : W p l e R s m args below meth c H locs cells slots Q (F0 m pc ls (.int x :: .ref (ad 9) :: rest)) := by
  subst hx
  refine va_zald F.1 F.2.1 hK hP 9 1 mw_9 rfl (vp_in_nI hj (by decide)) hdg ?_
  rw [nI_clamp (by omega)]
  exact kk
theorem sm_18 {x v : Int32} {j : Nat} {own : String} (F : CallFix p m c cc nL s args (cw :: tt) own) (hK : va_K D vwCl (mt cI cZ) s) (hP : va_P D vwCl (mw cI cZ ad σ) H) (hD : va_D A (mw cI cZ ad σ)) (hS : va_S A H0 H locs) (hx : x = nI j) (hj : j < 25) (hv : vp_nar .boolean v = v) (hdg : decode cc pc = .ok (.bastore, 1)) (kk : ∀ (H1 : Heap) (locs1 : List Loc), va_P D vwCl (mw cI cZ ad (u3 σ 18 0 j v)) H1 → va_D A (mw cI cZ ad (u3 σ 18 0 j v)) → va_S A H0 H1 locs1 → W p l e R s m args below meth c H1 locs1 cells slots Q (F0 m (pc + 1) ls rest)) : W p l e R s m args below meth c H locs cells slots Q (F0 m pc ls (.int v :: .int x :: .ref (ad 9) :: rest)) := by
  subst hx
  refine va_zast F.1 F.2.1 hK hP hD hS 9 1 mw_9 rfl (vp_in_nI hj (by decide)) hdg ?_
  rw [nI_clamp (by omega), hv]
  intro H1 locs1 h1 h2 h3
  rw [mw_set (k := 9) (c := 18) (f := upd (σ 18 0) j v) rfl (by simp [mc, mo_n, uA])] at h1 h2
  exact kk H1 locs1 h1 h2 h3
theorem im_19 {x : Int32} {j : Nat} {own : String} (F : CallFix p m c cc nL s args (cw :: tt) own) (hK : va_K D vwCl (mt cI cZ) s) (hP : va_P D vwCl (mw cI cZ ad σ) H) (hx : x = nI j) (hj : j < 5) (hdg : decode cc pc = .ok (.iaload, 1)) (kk : W p l e R s m args below meth c H locs cells slots Q (F0 m (pc + 1) ls (.int (σ 19 0 j) :: rest))) : W p l e R s m args below meth c H locs cells slots Q (F0 m pc ls (.int x :: .ref (ad 10) :: rest)) :=
  ok_iald F hK hP 10 0 mw_10 rfl hx hj (by decide) hdg kk
theorem sm_19 {x v : Int32} {j : Nat} {own : String} (F : CallFix p m c cc nL s args (cw :: tt) own) (hK : va_K D vwCl (mt cI cZ) s) (hP : va_P D vwCl (mw cI cZ ad σ) H) (hD : va_D A (mw cI cZ ad σ)) (hS : va_S A H0 H locs) (hx : x = nI j) (hj : j < 5) (hdg : decode cc pc = .ok (.iastore, 1)) (kk : ∀ (H1 : Heap) (locs1 : List Loc), va_P D vwCl (mw cI cZ ad (u3 σ 19 0 j v)) H1 → va_D A (mw cI cZ ad (u3 σ 19 0 j v)) → va_S A H0 H1 locs1 → W p l e R s m args below meth c H1 locs1 cells slots Q (F0 m (pc + 1) ls rest)) : W p l e R s m args below meth c H locs cells slots Q (F0 m pc ls (.int v :: .int x :: .ref (ad 10) :: rest)) :=
  ok_iast F hK hP hD hS 10 0 mw_10 rfl hx hj (by decide) (mw_set (k := 10) (c := 19) (f := upd (σ 19 0) j v) rfl (by simp [mc, mo_n, uA])) hdg kk
theorem im_20 {x : Int32} {j : Nat} {own : String} (F : CallFix p m c cc nL s args (cw :: tt) own) (hK : va_K D vwCl (mt cI cZ) s) (hP : va_P D vwCl (mw cI cZ ad σ) H) (hx : x = nI j) (hj : j < 5) (hdg : decode cc pc = .ok (.iaload, 1)) (kk : W p l e R s m args below meth c H locs cells slots Q (F0 m (pc + 1) ls (.int (σ 20 0 j) :: rest))) : W p l e R s m args below meth c H locs cells slots Q (F0 m pc ls (.int x :: .ref (ad 11) :: rest)) :=
  ok_iald F hK hP 11 0 mw_11 rfl hx hj (by decide) hdg kk
theorem sm_20 {x v : Int32} {j : Nat} {own : String} (F : CallFix p m c cc nL s args (cw :: tt) own) (hK : va_K D vwCl (mt cI cZ) s) (hP : va_P D vwCl (mw cI cZ ad σ) H) (hD : va_D A (mw cI cZ ad σ)) (hS : va_S A H0 H locs) (hx : x = nI j) (hj : j < 5) (hdg : decode cc pc = .ok (.iastore, 1)) (kk : ∀ (H1 : Heap) (locs1 : List Loc), va_P D vwCl (mw cI cZ ad (u3 σ 20 0 j v)) H1 → va_D A (mw cI cZ ad (u3 σ 20 0 j v)) → va_S A H0 H1 locs1 → W p l e R s m args below meth c H1 locs1 cells slots Q (F0 m (pc + 1) ls rest)) : W p l e R s m args below meth c H locs cells slots Q (F0 m pc ls (.int v :: .int x :: .ref (ad 11) :: rest)) :=
  ok_iast F hK hP hD hS 11 0 mw_11 rfl hx hj (by decide) (mw_set (k := 11) (c := 20) (f := upd (σ 20 0) j v) rfl (by simp [mc, mo_n, uA])) hdg kk
theorem im_21 {x : Int32} {j : Nat} {own : String} (F : CallFix p m c cc nL s args (cw :: tt) own) (hK : va_K D vwCl (mt cI cZ) s) (hP : va_P D vwCl (mw cI cZ ad σ) H) (hx : x = nI j) (hj : j < 5) (hdg : decode cc pc = .ok (.iaload, 1)) (kk : W p l e R s m args below meth c H locs cells slots Q (F0 m (pc + 1) ls (.int (σ 21 0 j) :: rest))) : W p l e R s m args below meth c H locs cells slots Q (F0 m pc ls (.int x :: .ref (ad 12) :: rest)) :=
  ok_iald F hK hP 12 0 mw_12 rfl hx hj (by decide) hdg kk
theorem sm_21 {x v : Int32} {j : Nat} {own : String} (F : CallFix p m c cc nL s args (cw :: tt) own) (hK : va_K D vwCl (mt cI cZ) s) (hP : va_P D vwCl (mw cI cZ ad σ) H) (hD : va_D A (mw cI cZ ad σ)) (hS : va_S A H0 H locs) (hx : x = nI j) (hj : j < 5) (hdg : decode cc pc = .ok (.iastore, 1)) (kk : ∀ (H1 : Heap) (locs1 : List Loc), va_P D vwCl (mw cI cZ ad (u3 σ 21 0 j v)) H1 → va_D A (mw cI cZ ad (u3 σ 21 0 j v)) → va_S A H0 H1 locs1 → W p l e R s m args below meth c H1 locs1 cells slots Q (F0 m (pc + 1) ls rest)) : W p l e R s m args below meth c H locs cells slots Q (F0 m pc ls (.int v :: .int x :: .ref (ad 12) :: rest)) :=
  ok_iast F hK hP hD hS 12 0 mw_12 rfl hx hj (by decide) (mw_set (k := 12) (c := 21) (f := upd (σ 21 0) j v) rfl (by simp [mc, mo_n, uA])) hdg kk
theorem im_22 {x : Int32} {j : Nat} {own : String} (F : CallFix p m c cc nL s args (cw :: tt) own) (hK : va_K D vwCl (mt cI cZ) s) (hP : va_P D vwCl (mw cI cZ ad σ) H) (hx : x = nI j) (hj : j < 5) (hdg : decode cc pc = .ok (.iaload, 1)) (kk : W p l e R s m args below meth c H locs cells slots Q (F0 m (pc + 1) ls (.int (σ 22 0 j) :: rest))) : W p l e R s m args below meth c H locs cells slots Q (F0 m pc ls (.int x :: .ref (ad 13) :: rest)) :=
  ok_iald F hK hP 13 0 mw_13 rfl hx hj (by decide) hdg kk
theorem sm_22 {x v : Int32} {j : Nat} {own : String} (F : CallFix p m c cc nL s args (cw :: tt) own) (hK : va_K D vwCl (mt cI cZ) s) (hP : va_P D vwCl (mw cI cZ ad σ) H) (hD : va_D A (mw cI cZ ad σ)) (hS : va_S A H0 H locs) (hx : x = nI j) (hj : j < 5) (hdg : decode cc pc = .ok (.iastore, 1)) (kk : ∀ (H1 : Heap) (locs1 : List Loc), va_P D vwCl (mw cI cZ ad (u3 σ 22 0 j v)) H1 → va_D A (mw cI cZ ad (u3 σ 22 0 j v)) → va_S A H0 H1 locs1 → W p l e R s m args below meth c H1 locs1 cells slots Q (F0 m (pc + 1) ls rest)) : W p l e R s m args below meth c H locs cells slots Q (F0 m pc ls (.int v :: .int x :: .ref (ad 13) :: rest)) :=
  ok_iast F hK hP hD hS 13 0 mw_13 rfl hx hj (by decide) (mw_set (k := 13) (c := 22) (f := upd (σ 22 0) j v) rfl (by simp [mc, mo_n, uA])) hdg kk
theorem im_23 {x : Int32} {j : Nat} {own : String} (F : CallFix p m c cc nL s args (cw :: tt) own) (hK : va_K D vwCl (mt cI cZ) s) (hP : va_P D vwCl (mw cI cZ ad σ) H) (hx : x = nI j) (hj : j < 5) (hdg : decode cc pc = .ok (.iaload, 1)) (kk : W p l e R s m args below meth c H locs cells slots Q (F0 m (pc + 1) ls (.int (σ 23 0 j) :: rest))) : W p l e R s m args below meth c H locs cells slots Q (F0 m pc ls (.int x :: .ref (ad 14) :: rest)) :=
  ok_iald F hK hP 14 0 mw_14 rfl hx hj (by decide) hdg kk
theorem sm_23 {x v : Int32} {j : Nat} {own : String} (F : CallFix p m c cc nL s args (cw :: tt) own) (hK : va_K D vwCl (mt cI cZ) s) (hP : va_P D vwCl (mw cI cZ ad σ) H) (hD : va_D A (mw cI cZ ad σ)) (hS : va_S A H0 H locs) (hx : x = nI j) (hj : j < 5) (hdg : decode cc pc = .ok (.iastore, 1)) (kk : ∀ (H1 : Heap) (locs1 : List Loc), va_P D vwCl (mw cI cZ ad (u3 σ 23 0 j v)) H1 → va_D A (mw cI cZ ad (u3 σ 23 0 j v)) → va_S A H0 H1 locs1 → W p l e R s m args below meth c H1 locs1 cells slots Q (F0 m (pc + 1) ls rest)) : W p l e R s m args below meth c H locs cells slots Q (F0 m pc ls (.int v :: .int x :: .ref (ad 14) :: rest)) :=
  ok_iast F hK hP hD hS 14 0 mw_14 rfl hx hj (by decide) (mw_set (k := 14) (c := 23) (f := upd (σ 23 0) j v) rfl (by simp [mc, mo_n, uA])) hdg kk
theorem im_w {x : Int32} {j w : Nat} {own : String} (F : CallFix p m c cc nL s args (cw :: tt) own) (hK : va_K D vwCl (mt cI cZ) s) (hP : va_P D vwCl (mw cI cZ ad σ) H) (hw : w = 11 ∨ w = 14) (hx : x = nI j) (hj : j < 5) (hdg : decode cc pc = .ok (.iaload, 1)) (kk : W p l e R s m args below meth c H locs cells slots Q (F0 m (pc + 1) ls (.int (σ (w + 9) 0 j) :: rest))) : W p l e R s m args below meth c H locs cells slots Q (F0 m pc ls (.int x :: .ref (ad w) :: rest)) := by
  rcases hw with rfl | rfl
  · exact im_20 F hK hP hx hj hdg kk
  · exact im_23 F hK hP hx hj hdg kk
end MF
end
section
-- the reference's small words
def mo_in (x a b : Int32) : Int32 := if x < a then 0 else if b < x then 0 else 1
theorem mo_in_b {x a b : Int32} : narrow .boolean (.int (mo_in x a b)) = .int (mo_in x a b) := by
  unfold mo_in
  split
  · rfl
  · split <;> rfl
def mo_g (x y : Int32) : Int32 := if x = 0 then 1 else if y = 0 then 2 else 0
def mo_a (σ : oS) : oS := u3 (u3 (u3 (u3 (u3 σ 5 0 0 0) 19 0 0 (σ 11 0 0)) 6 0 0 0) 7 0 0 0) 8 0 0 0
def mo_z (σ : oS) : Nat → oS
  | 0 => σ
  | k + 1 => u3 (mo_z σ k) 17 0 k 0
theorem mo_z_c {σ : oS} {k c : Nat} (h : c ≠ 17) : mo_z σ k c = σ c := by
  induction k with
  | zero => rfl
  | succ k ih => rw [mo_z, u3_c h, ih]
def mo_k (σ : oS) (r k : Nat) : Int32 := if k < r then σ 12 0 k else 0
def mo_A (σ : oS) (k : Nat) : Nat := (σ 15 0 k).toNatClampNeg
def mo_B (σ : oS) (k : Nat) : Nat := (σ 16 0 k).toNatClampNeg
/-- the cuts' columns are columns -/
def mo_ok (σ : oS) (u : Nat) : Prop := ∀ k, k < u → σ 15 0 k = nI (mo_A σ k) ∧ mo_A σ k < 5 ∧ σ 16 0 k = nI (mo_B σ k) ∧ mo_B σ k < 5
def mo_r (σ : oS) (r k : Nat) : Int32 := if k < r then σ 13 0 k else if σ 11 0 (mo_A σ (k - r)) ≤ σ 11 0 (mo_B σ (k - r)) then σ 11 0 (mo_B σ (k - r)) else σ 11 0 (mo_A σ (k - r))
def mo_f (σ : oS) (r k j : Nat) : Int32 := if k < r then σ 14 0 (5 * k + j) else if σ 15 0 (k - r) = nI j then 1 else if σ 16 0 (k - r) = nI j then 1 else 0
theorem mo_ix {k j : Nat} : (5 : Int32) * nI k + nI j = nI (5 * k + j) := by rw [show (5 : Int32) = nI 5 from rfl, pk_mul, nI_add]
def mo_s1 (σ : oS) (r k w : Nat) : Nat → Int32
  | 0 => 0
  | c + 1 => mo_s1 σ r k w c + mo_f σ r k c * σ (w + 9) 0 c
def mo_y (σ : oS) (r k c : Nat) (s : Int32) : Int32 := if mo_k σ r k = 0 then (if 0 ≤ mo_f σ r k c * σ 11 0 c then s else s + mo_f σ r k c * σ 11 0 c) else (if mo_f σ r k c * σ 11 0 c ≤ 0 then s else s + mo_f σ r k c * σ 11 0 c)
def mo_s2 (σ : oS) (r k m : Nat) (s : Int32) : Nat → Int32
  | 0 => s
  | d + 1 => mo_y σ r k (m + d) (mo_s2 σ r k m s d)
def mo_h (σ : oS) (r k : Nat) (s : Int32) : Int32 := if mo_k σ r k = 0 then (if mo_r σ r k < s then 0 else 1) else (if s < mo_r σ r k then 0 else 1)
theorem mo_h_b {σ : oS} {r k : Nat} {s : Int32} : narrow .boolean (.int (mo_h σ r k s)) = .int (mo_h σ r k s) := by
  unfold mo_h
  split <;> split <;> rfl
def mo_w (σ : oS) : Nat → Int32
  | 0 => 0
  | c + 1 => mo_w σ c + σ 10 0 c * σ 20 0 c
section
variable {l : Launch} {D : va_G} {cI cZ : ClassId} {ad : Nat → Nat}
variable {p : Program} {e : Env} {R : Room} {s : State} {m : MethodId} {args : Array Value} {below : List Frame} {meth : Method} {c : Code} {H : Heap} {locs : List Loc} {cells slots : Nat} {Q : State → Prop} {cc : ByteArray} {pc nL index : Nat} {ls : Array Slot} {rest : List Value} {A : Nat → Prop} {H0 : Heap} {cw : Cond} {own : String}
set_option maxHeartbeats 4000000 in
set_option maxRecDepth 100000 in
theorem c_Mo_thrown (σ : oS) : ok_MR l y_Mo_thrown (Cond.code y_Mo_thrown b_Mo_thrown 1 (some .int) :: tt) { frames := 0, cells := 0, slots := 0, locals := 0 } D vwCl (mt cI cZ) (mw cI cZ ad σ) [.ref (ad 0)] (some (.int (σ 0 0 0))) := by
  refine ok_startR (cc := b_Mo_thrown) (own := RMo) (maxL := 1) (ret := (some .int)) (by decide +kernel) rfl rfl (Nat.le_of_ble_eq_true rfl) ?_
  intro p e s m below meth c F hr hlk hP hK ls hl
  have hl : lv_has ls 1 [(0, .ref (ad 0))] := hl
  have hx := F.1
  have hb := F.2.1
  refine lv_aload_n hx hb d_Mo_thrown_0 rfl (lv_at hl 0 rfl) ?_
  refine gf_Mo_thrown F hK hP d_Mo_thrown_1 ?_
  exact ok_iretR F hr hlk (rfl) d_Mo_thrown_4
theorem x_Mo_thrown {σ : oS} (F : CallFix p m c cc nL s args (cw :: tt) own) (hG : Cond.methodLink own index y_Mo_thrown ∈ tt) (hR : 0 + 1 ≤ R.frames ∧ 8 + (1 + 11) + 0 ≤ R.locals) (hK : va_K D vwCl (mt cI cZ) s) (hP : va_P D vwCl (mw cI cZ ad σ) H) (hsz : ls.size = nL) (hW : (rest.map fun v => v.category).sum ≤ 8) (hcs : cells ≤ R.cells ∧ slots ≤ R.slots) (hdg : decode cc pc = .ok (.invokevirtual index, 3)) (kk : W p l e R s m args below meth c H locs cells slots Q (F0 m (pc + 3) ls (.int (σ 0 0 0) :: rest))) : W p l e R s m args below meth c H locs cells slots Q (F0 m pc ls (.ref (ad 0) :: rest)) :=
  ok_VR (As := []) F (c_Mo_thrown σ) 0 (tt_V hG i_Mo_thrown l_Mo_thrown in9_Mo k_Mo_thrown) rfl ⟨rfl, rfl⟩ (by decide +kernel) hR hK hP (0) 6 rfl rfl mw_0 rfl hsz rfl hW hcs hdg kk
set_option maxHeartbeats 4000000 in
set_option maxRecDepth 100000 in
theorem c_Mo_in (σ : oS) {x : Int32} {y : Int32} {v : Int32} : ok_MR l y_Mo_in (Cond.code y_Mo_in b_Mo_in 3 (some .boolean) :: tt) { frames := 0, cells := 0, slots := 0, locals := 0 } D vwCl (mt cI cZ) (mw cI cZ ad σ) [.int x, .int y, .int v] (some (.int (mo_in x y v))) := by
  refine ok_startR (cc := b_Mo_in) (own := RMo) (maxL := 3) (ret := (some .boolean)) (by decide +kernel) rfl rfl (Nat.le_of_ble_eq_true rfl) ?_
  intro p e s m below meth c F hr hlk hP hK ls hl
  have hl : lv_has ls 3 [(0, .int x), (1, .int y), (2, .int v)] := hl
  have hx := F.1
  have hb := F.2.1
  refine lv_iload_n hx hb d_Mo_in_0 rfl (lv_at hl 0 rfl) ?_
  refine lv_iload_n hx hb d_Mo_in_1 rfl (lv_at hl 1 rfl) ?_
  refine lv_icmp_lt (tgt := 14) hx hb d_Mo_in_2 (by decide) (fun c1 => ?_) (fun c1 => ?_)
  · refine lv_iconst (v := 0) hx hb d_Mo_in_14 (by decide) ?_
    exact ok_zretR F hr hlk (rfl) (by simp [mo_in, c1]) d_Mo_in_15
  · refine lv_iload_n hx hb d_Mo_in_5 rfl (lv_at hl 0 rfl) ?_
    refine lv_iload_n hx hb d_Mo_in_6 rfl (lv_at hl 2 rfl) ?_
    refine lv_icmp_gt (tgt := 14) hx hb d_Mo_in_7 (by decide) (fun c2 => ?_) (fun c2 => ?_)
    · refine lv_iconst (v := 0) hx hb d_Mo_in_14 (by decide) ?_
      exact ok_zretR F hr hlk (rfl) (by simp [mo_in, c1, c2]) d_Mo_in_15
    · refine lv_iconst (v := 1) hx hb d_Mo_in_10 (by decide) ?_
      refine lv_goto (tgt := 15) hx hb d_Mo_in_11 (by decide) ?_
      exact ok_zretR F hr hlk (rfl) (by simp [mo_in, c1, c2]) d_Mo_in_15
theorem x_Mo_in {σ : oS} {x : Int32} {y : Int32} {v : Int32} (F : CallFix p m c cc nL s args (cw :: tt) RMo) (hG : Cond.methodLink RMo index y_Mo_in ∈ tt) (hR : 0 + 1 ≤ R.frames ∧ 8 + (3 + 11) + 0 ≤ R.locals) (hK : va_K D vwCl (mt cI cZ) s) (hP : va_P D vwCl (mw cI cZ ad σ) H) (hsz : ls.size = nL) (hW : (rest.map fun v => v.category).sum ≤ 8) (hcs : cells ≤ R.cells ∧ slots ≤ R.slots) (hdg : decode cc pc = .ok (.invokestatic index, 3)) (kk : W p l e R s m args below meth c H locs cells slots Q (F0 m (pc + 3) ls (.int (mo_in x y v) :: rest))) : W p l e R s m args below meth c H locs cells slots Q (F0 m pc ls (.int v :: .int y :: .int x :: rest)) :=
  ok_SR (As := [.int x, .int y, .int v]) F (c_Mo_in σ) 3 (tt_S hG s_Mo_in in9_Mo k_Mo_in) rfl ⟨rfl, rfl⟩ (by decide +kernel) hR hK hP rfl hsz rfl hW hcs hdg kk
set_option maxHeartbeats 4000000 in
set_option maxRecDepth 100000 in
theorem c_Mo_goes (σ : oS) {x : Int32} {y : Int32} : ok_MM l y_Mo_goes (Cond.code y_Mo_goes b_Mo_goes 3 (some .boolean) :: tt) { frames := 0, cells := 0, slots := 0, locals := 0 } D vwCl (mt cI cZ) (mw cI cZ ad σ) (mw cI cZ ad (u3 σ 0 0 0 (mo_g x y))) [.ref (ad 0), .int x, .int y] (some (.int (if mo_g x y = 0 then 1 else 0))) := by
  refine ok_startM (cc := b_Mo_goes) (own := RMo) (maxL := 3) (ret := (some .boolean)) (by decide +kernel) rfl rfl (Nat.le_of_ble_eq_true rfl) ?_
  intro p e s m below meth c A F hr hlk hA hP hK hD hS ls hl
  have hl : lv_has ls 3 [(0, .ref (ad 0)), (1, .int x), (2, .int y)] := hl
  have hx := F.1
  have hb := F.2.1
  refine lv_aload_n hx hb d_Mo_goes_0 rfl (lv_at hl 0 rfl) ?_
  refine lv_iload_n hx hb d_Mo_goes_1 rfl (lv_at hl 1 rfl) ?_
  refine lv_if_ne (tgt := 9) hx hb d_Mo_goes_2 (by decide) (fun c1 => ?_) (fun c1 => ?_)
  · refine lv_iload_n hx hb d_Mo_goes_9 rfl (lv_at hl 2 rfl) ?_
    refine lv_if_ne (tgt := 17) hx hb d_Mo_goes_10 (by decide) (fun c2 => ?_) (fun c2 => ?_)
    · refine lv_iconst (v := 0) hx hb d_Mo_goes_17 (by decide) ?_
      refine pf_Mo_thrown F hK hP hD hS d_Mo_goes_18 (fun H locs hP hD hS => ?_)
      have ew : u3 σ 0 0 0 0 = u3 σ 0 0 0 (mo_g x y) := by simp [mo_g, c1, c2]
      rw [ew] at hP hD
      clear ew
      refine lv_aload_n hx hb d_Mo_goes_21 rfl (lv_at hl 0 rfl) ?_
      refine gf_Mo_thrown F hK hP d_Mo_goes_22 ?_
      refine lv_if_ne (tgt := 32) hx hb d_Mo_goes_25 (by decide) (fun c3 => ?_) (fun c3 => ?_)
      · rw [u3_s] at c3
        refine lv_iconst (v := 0) hx hb d_Mo_goes_32 (by decide) ?_
        exact ok_zretM F hr hlk hP hD hS (rfl) (by simp [c3]) d_Mo_goes_33
      · rw [u3_s] at c3
        refine lv_iconst (v := 1) hx hb d_Mo_goes_28 (by decide) ?_
        refine lv_goto (tgt := 33) hx hb d_Mo_goes_29 (by decide) ?_
        exact ok_zretM F hr hlk hP hD hS (rfl) (by simp [c3]) d_Mo_goes_33
    · refine lv_iconst (v := 2) hx hb d_Mo_goes_13 (by decide) ?_
      refine lv_goto (tgt := 18) hx hb d_Mo_goes_14 (by decide) ?_
      refine pf_Mo_thrown F hK hP hD hS d_Mo_goes_18 (fun H locs hP hD hS => ?_)
      have ew : u3 σ 0 0 0 2 = u3 σ 0 0 0 (mo_g x y) := by simp [mo_g, c1, c2]
      rw [ew] at hP hD
      clear ew
      refine lv_aload_n hx hb d_Mo_goes_21 rfl (lv_at hl 0 rfl) ?_
      refine gf_Mo_thrown F hK hP d_Mo_goes_22 ?_
      refine lv_if_ne (tgt := 32) hx hb d_Mo_goes_25 (by decide) (fun c4 => ?_) (fun c4 => ?_)
      · rw [u3_s] at c4
        refine lv_iconst (v := 0) hx hb d_Mo_goes_32 (by decide) ?_
        exact ok_zretM F hr hlk hP hD hS (rfl) (by simp [c4]) d_Mo_goes_33
      · rw [u3_s] at c4
        refine lv_iconst (v := 1) hx hb d_Mo_goes_28 (by decide) ?_
        refine lv_goto (tgt := 33) hx hb d_Mo_goes_29 (by decide) ?_
        exact ok_zretM F hr hlk hP hD hS (rfl) (by simp [c4]) d_Mo_goes_33
  · refine lv_iconst (v := 1) hx hb d_Mo_goes_5 (by decide) ?_
    refine lv_goto (tgt := 18) hx hb d_Mo_goes_6 (by decide) ?_
    refine pf_Mo_thrown F hK hP hD hS d_Mo_goes_18 (fun H locs hP hD hS => ?_)
    have ew : u3 σ 0 0 0 1 = u3 σ 0 0 0 (mo_g x y) := by simp [mo_g, c1]
    rw [ew] at hP hD
    clear ew
    refine lv_aload_n hx hb d_Mo_goes_21 rfl (lv_at hl 0 rfl) ?_
    refine gf_Mo_thrown F hK hP d_Mo_goes_22 ?_
    refine lv_if_ne (tgt := 32) hx hb d_Mo_goes_25 (by decide) (fun c5 => ?_) (fun c5 => ?_)
    · rw [u3_s] at c5
      refine lv_iconst (v := 0) hx hb d_Mo_goes_32 (by decide) ?_
      exact ok_zretM F hr hlk hP hD hS (rfl) (by simp [c5]) d_Mo_goes_33
    · rw [u3_s] at c5
      refine lv_iconst (v := 1) hx hb d_Mo_goes_28 (by decide) ?_
      refine lv_goto (tgt := 33) hx hb d_Mo_goes_29 (by decide) ?_
      exact ok_zretM F hr hlk hP hD hS (rfl) (by simp [c5]) d_Mo_goes_33
theorem x_Mo_goes {σ : oS} {x : Int32} {y : Int32} (F : CallFix p m c cc nL s args (cw :: tt) own) (hG : Cond.methodLink own index y_Mo_goes ∈ tt) (hR : 0 + 1 ≤ R.frames ∧ 8 + (3 + 11) + 0 ≤ R.locals) (hK : va_K D vwCl (mt cI cZ) s) (hP : va_P D vwCl (mw cI cZ ad σ) H) (hD : va_D A (mw cI cZ ad σ)) (hS : va_S A H0 H locs) (hA : ∀ q, H0.size ≤ q → A q) (hsz : ls.size = nL) (hW : (rest.map fun v => v.category).sum ≤ 8) (hcs : cells ≤ R.cells ∧ slots ≤ R.slots) (hdg : decode cc pc = .ok (.invokevirtual index, 3)) (kk : ∀ (H1 : Heap) (locs1 : List Loc), va_P D vwCl (mw cI cZ ad (u3 σ 0 0 0 (mo_g x y))) H1 → va_D A (mw cI cZ ad (u3 σ 0 0 0 (mo_g x y))) → va_S A H0 H1 locs1 → W p l e R s m args below meth c H1 locs1 cells slots Q (F0 m (pc + 3) ls (.int (if mo_g x y = 0 then 1 else 0) :: rest))) : W p l e R s m args below meth c H locs cells slots Q (F0 m pc ls (.int y :: .int x :: .ref (ad 0) :: rest)) :=
  ok_VM (As := [.int x, .int y]) F (c_Mo_goes σ) 2 (tt_V hG i_Mo_goes l_Mo_goes in9_Mo k_Mo_goes) rfl ⟨rfl, rfl⟩ (by decide +kernel) hR hK hP hD hS hA (0) 6 rfl rfl mw_0 rfl hsz rfl hW hcs hdg kk
set_option maxHeartbeats 4000000 in
set_option maxRecDepth 100000 in
theorem c_Mo_isColumn (σ : oS) {x : Int32} : ok_MR l y_Mo_isColumn (Cond.code y_Mo_isColumn b_Mo_isColumn 2 (some .boolean) :: tt) { frames := 1, cells := 0, slots := 0, locals := 22 } D vwCl (mt cI cZ) (mw cI cZ ad σ) [.ref (ad 0), .int x] (some (.int (mo_in x 0 (σ 1 0 0 - 1)))) := by
  refine ok_startR (cc := b_Mo_isColumn) (own := RMo) (maxL := 2) (ret := (some .boolean)) (by decide +kernel) rfl rfl (Nat.le_of_ble_eq_true rfl) ?_
  intro p e s m below meth c F hr hlk hP hK ls hl
  have hl : lv_has ls 2 [(0, .ref (ad 0)), (1, .int x)] := hl
  have hx := F.1
  have hb := F.2.1
  refine lv_iload_n hx hb d_Mo_isColumn_0 rfl (lv_at hl 1 rfl) ?_
  refine lv_iconst (v := 0) hx hb d_Mo_isColumn_1 (by decide) ?_
  refine lv_aload_n hx hb d_Mo_isColumn_2 rfl (lv_at hl 0 rfl) ?_
  refine gf_Mo_columns F hK hP d_Mo_isColumn_3 ?_
  refine lv_iconst (v := 1) hx hb d_Mo_isColumn_6 (by decide) ?_
  refine lv_isub hx hb d_Mo_isColumn_7 ?_
  refine x_Mo_in F (tt3 227 rfl rfl) ⟨Nat.le_of_ble_eq_true rfl, Nat.le_of_ble_eq_true rfl⟩ hK hP hl.1 (Nat.le_of_ble_eq_true rfl) ⟨Nat.zero_le _, Nat.zero_le _⟩ d_Mo_isColumn_8 ?_
  exact ok_zretR F hr hlk (mo_in_b) (rfl) d_Mo_isColumn_11
theorem x_Mo_isColumn {σ : oS} {x : Int32} (F : CallFix p m c cc nL s args (cw :: tt) own) (hG : Cond.methodLink own index y_Mo_isColumn ∈ tt) (hR : 1 + 1 ≤ R.frames ∧ 8 + (2 + 11) + 22 ≤ R.locals) (hK : va_K D vwCl (mt cI cZ) s) (hP : va_P D vwCl (mw cI cZ ad σ) H) (hsz : ls.size = nL) (hW : (rest.map fun v => v.category).sum ≤ 8) (hcs : cells ≤ R.cells ∧ slots ≤ R.slots) (hdg : decode cc pc = .ok (.invokevirtual index, 3)) (kk : W p l e R s m args below meth c H locs cells slots Q (F0 m (pc + 3) ls (.int (mo_in x 0 (σ 1 0 0 - 1)) :: rest))) : W p l e R s m args below meth c H locs cells slots Q (F0 m pc ls (.int x :: .ref (ad 0) :: rest)) :=
  ok_VR (As := [.int x]) F (c_Mo_isColumn σ) 1 (tt_V hG i_Mo_isColumn l_Mo_isColumn in9_Mo k_Mo_isColumn) rfl ⟨rfl, rfl⟩ (by decide +kernel) hR hK hP (0) 6 rfl rfl mw_0 rfl hsz rfl hW hcs hdg kk
set_option maxHeartbeats 4000000 in
set_option maxRecDepth 100000 in
theorem c_Mo_isRow (σ : oS) {x : Int32} : ok_MR l y_Mo_isRow (Cond.code y_Mo_isRow b_Mo_isRow 2 (some .boolean) :: tt) { frames := 1, cells := 0, slots := 0, locals := 22 } D vwCl (mt cI cZ) (mw cI cZ ad σ) [.ref (ad 0), .int x] (some (.int (mo_in x 0 (σ 2 0 0 - 1)))) := by
  refine ok_startR (cc := b_Mo_isRow) (own := RMo) (maxL := 2) (ret := (some .boolean)) (by decide +kernel) rfl rfl (Nat.le_of_ble_eq_true rfl) ?_
  intro p e s m below meth c F hr hlk hP hK ls hl
  have hl : lv_has ls 2 [(0, .ref (ad 0)), (1, .int x)] := hl
  have hx := F.1
  have hb := F.2.1
  refine lv_iload_n hx hb d_Mo_isRow_0 rfl (lv_at hl 1 rfl) ?_
  refine lv_iconst (v := 0) hx hb d_Mo_isRow_1 (by decide) ?_
  refine lv_aload_n hx hb d_Mo_isRow_2 rfl (lv_at hl 0 rfl) ?_
  refine gf_Mo_rows F hK hP d_Mo_isRow_3 ?_
  refine lv_iconst (v := 1) hx hb d_Mo_isRow_6 (by decide) ?_
  refine lv_isub hx hb d_Mo_isRow_7 ?_
  refine x_Mo_in F (tt3 227 rfl rfl) ⟨Nat.le_of_ble_eq_true rfl, Nat.le_of_ble_eq_true rfl⟩ hK hP hl.1 (Nat.le_of_ble_eq_true rfl) ⟨Nat.zero_le _, Nat.zero_le _⟩ d_Mo_isRow_8 ?_
  exact ok_zretR F hr hlk (mo_in_b) (rfl) d_Mo_isRow_11
theorem x_Mo_isRow {σ : oS} {x : Int32} (F : CallFix p m c cc nL s args (cw :: tt) own) (hG : Cond.methodLink own index y_Mo_isRow ∈ tt) (hR : 1 + 1 ≤ R.frames ∧ 8 + (2 + 11) + 22 ≤ R.locals) (hK : va_K D vwCl (mt cI cZ) s) (hP : va_P D vwCl (mw cI cZ ad σ) H) (hsz : ls.size = nL) (hW : (rest.map fun v => v.category).sum ≤ 8) (hcs : cells ≤ R.cells ∧ slots ≤ R.slots) (hdg : decode cc pc = .ok (.invokevirtual index, 3)) (kk : W p l e R s m args below meth c H locs cells slots Q (F0 m (pc + 3) ls (.int (mo_in x 0 (σ 2 0 0 - 1)) :: rest))) : W p l e R s m args below meth c H locs cells slots Q (F0 m pc ls (.int x :: .ref (ad 0) :: rest)) :=
  ok_VR (As := [.int x]) F (c_Mo_isRow σ) 1 (tt_V hG i_Mo_isRow l_Mo_isRow in9_Mo k_Mo_isRow) rfl ⟨rfl, rfl⟩ (by decide +kernel) hR hK hP (0) 6 rfl rfl mw_0 rfl hsz rfl hW hcs hdg kk
set_option maxHeartbeats 4000000 in
set_option maxRecDepth 100000 in
theorem c_Mo_anew (σ : oS) : ok_MM l y_Mo_anew (Cond.code y_Mo_anew b_Mo_anew 1 none :: tt) { frames := 0, cells := 0, slots := 0, locals := 0 } D vwCl (mt cI cZ) (mw cI cZ ad σ) (mw cI cZ ad (mo_a σ)) [.ref (ad 0)] none := by
  refine ok_startM (cc := b_Mo_anew) (own := RMo) (maxL := 1) (ret := none) (by decide +kernel) rfl rfl (Nat.le_of_ble_eq_true rfl) ?_
  intro p e s m below meth c A F hr hlk hA hP hK hD hS ls hl
  have hl : lv_has ls 1 [(0, .ref (ad 0))] := hl
  have hx := F.1
  have hb := F.2.1
  refine lv_aload_n hx hb d_Mo_anew_0 rfl (lv_at hl 0 rfl) ?_
  refine lv_iconst (v := 0) hx hb d_Mo_anew_1 (by decide) ?_
  refine pf_Mo_depth F hK hP hD hS d_Mo_anew_2 (fun H locs hP hD hS => ?_)
  refine lv_aload_n hx hb d_Mo_anew_5 rfl (lv_at hl 0 rfl) ?_
  refine gf_Mo_next F hK hP d_Mo_anew_6 ?_
  refine lv_iconst (v := 0) hx hb d_Mo_anew_9 (by decide) ?_
  refine lv_aload_n hx hb d_Mo_anew_10 rfl (lv_at hl 0 rfl) ?_
  refine gf_Mo_top F hK hP d_Mo_anew_11 ?_
  refine lv_iconst (v := 0) hx hb d_Mo_anew_14 (by decide) ?_
  refine im_11 (j := 0) F hK hP (by decide) (by omega) d_Mo_anew_15 ?_
  refine sm_19 (j := 0) F hK hP hD hS (by decide) (by omega) d_Mo_anew_16 (fun H locs hP hD hS => ?_)
  refine lv_aload_n hx hb d_Mo_anew_17 rfl (lv_at hl 0 rfl) ?_
  refine lv_iconst (v := 0) hx hb d_Mo_anew_18 (by decide) ?_
  refine pf_Mo_ended F hK hP hD hS (by rfl) (by rfl) d_Mo_anew_19 (fun H locs hP hD hS => ?_)
  refine lv_aload_n hx hb d_Mo_anew_22 rfl (lv_at hl 0 rfl) ?_
  refine lv_iconst (v := 0) hx hb d_Mo_anew_23 (by decide) ?_
  refine pf_Mo_found F hK hP hD hS (by rfl) (by rfl) d_Mo_anew_24 (fun H locs hP hD hS => ?_)
  refine lv_aload_n hx hb d_Mo_anew_27 rfl (lv_at hl 0 rfl) ?_
  refine lv_iconst (v := 0) hx hb d_Mo_anew_28 (by decide) ?_
  refine pf_Mo_steps F hK hP hD hS d_Mo_anew_29 (fun H locs hP hD hS => ?_)
  have ew : u3 (u3 (u3 (u3 (u3 σ 5 0 0 0) 19 0 0 ((u3 σ 5 0 0 0) 11 0 0)) 6 0 0 0) 7 0 0 0) 8 0 0 0 = mo_a σ := by rfl
  rw [ew] at hP hD
  clear ew
  exact ok_vretM F hr hlk hP hD hS d_Mo_anew_32
theorem x_Mo_anew {σ : oS} (F : CallFix p m c cc nL s args (cw :: tt) own) (hG : Cond.methodLink own index y_Mo_anew ∈ tt) (hR : 0 + 1 ≤ R.frames ∧ 8 + (1 + 11) + 0 ≤ R.locals) (hK : va_K D vwCl (mt cI cZ) s) (hP : va_P D vwCl (mw cI cZ ad σ) H) (hD : va_D A (mw cI cZ ad σ)) (hS : va_S A H0 H locs) (hA : ∀ q, H0.size ≤ q → A q) (hsz : ls.size = nL) (hW : (rest.map fun v => v.category).sum ≤ 8) (hcs : cells ≤ R.cells ∧ slots ≤ R.slots) (hdg : decode cc pc = .ok (.invokevirtual index, 3)) (kk : ∀ (H1 : Heap) (locs1 : List Loc), va_P D vwCl (mw cI cZ ad (mo_a σ)) H1 → va_D A (mw cI cZ ad (mo_a σ)) → va_S A H0 H1 locs1 → W p l e R s m args below meth c H1 locs1 cells slots Q (F0 m (pc + 3) ls (rest))) : W p l e R s m args below meth c H locs cells slots Q (F0 m pc ls (.ref (ad 0) :: rest)) :=
  ok_VM (As := []) F (c_Mo_anew σ) 0 (tt_V hG i_Mo_anew l_Mo_anew in9_Mo k_Mo_anew) rfl ⟨rfl, rfl⟩ (by decide +kernel) hR hK hP hD hS hA (0) 6 rfl rfl mw_0 rfl hsz rfl hW hcs hdg kk
set_option maxHeartbeats 4000000 in
set_option maxRecDepth 100000 in
theorem c_Mo_noMultipliers (σ : oS) : ok_MM l y_Mo_noMultipliers (Cond.code y_Mo_noMultipliers b_Mo_noMultipliers 2 none :: tt) { frames := 0, cells := 0, slots := 0, locals := 0 } D vwCl (mt cI cZ) (mw cI cZ ad σ) (mw cI cZ ad (mo_z σ 8)) [.ref (ad 0)] none := by
  refine ok_startM (cc := b_Mo_noMultipliers) (own := RMo) (maxL := 2) (ret := none) (by decide +kernel) rfl rfl (Nat.le_of_ble_eq_true rfl) ?_
  intro p e s m below meth c A F hr hlk hA hP hK hD hS ls hl
  have hl : lv_has ls 2 [(0, .ref (ad 0))] := hl
  have hx := F.1
  have hb := F.2.1
  have lp : ∀ (f k : Nat), k ≤ 8 → 8 - k < f → ∀ (H : Heap) (locs : List Loc), va_P D vwCl (mw cI cZ ad (mo_z σ k)) H → va_D A (mw cI cZ ad (mo_z σ k)) → va_S A s.heap H locs → ∀ ls : Array Slot, lv_has ls 2 [(1, .int (nI k)), (0, .ref (ad 0))] → W p l e { frames := 0, cells := 0, slots := 0, locals := 0 } s m ([.ref (ad 0)] : List Value).toArray below meth c H locs 0 0 (MQ below (ok_qA D vwCl A (mw cI cZ ad (mo_z σ 8)) none) ([.ref (ad 0)] : List Value).toArray s 0 0 A) (F0 m 2 ls []) := by
    intro f
    induction f with
    | zero => intro k h1 h2; omega
    | succ f ih =>
      intro k h1 h2 H locs hP hD hS ls hl
      refine lv_iload_n hx hb d_Mo_noMultipliers_2 rfl (lv_at hl 0 rfl) ?_
      refine lv_bipush (v := 8) hx hb d_Mo_noMultipliers_3 (by decide) ?_
      refine lv_icmp_ge (tgt := 21) hx hb d_Mo_noMultipliers_5 (by decide) (fun c1 => ?_) (fun c1 => ?_)
      · have hkn : 8 = k := by
          rw [show (8 : Int32) = nI 8 from rfl, nI_leI (by omega) (by omega)] at c1; omega
        subst hkn
        exact ok_vretM F hr hlk hP hD hS d_Mo_noMultipliers_21
      · have hkn : k < 8 := by
          rw [show (8 : Int32) = nI 8 from rfl, nI_leI (by omega) (by omega)] at c1; omega
        refine lv_aload_n hx hb d_Mo_noMultipliers_8 rfl (lv_at hl 1 rfl) ?_
        refine gf_Mo_multiplier F hK hP d_Mo_noMultipliers_9 ?_
        refine lv_iload_n hx hb d_Mo_noMultipliers_12 rfl (lv_at hl 0 rfl) ?_
        refine lv_iconst (v := 0) hx hb d_Mo_noMultipliers_13 (by decide) ?_
        refine sm_17 (j := k) F hK hP hD hS rfl (by omega) d_Mo_noMultipliers_14 (fun H locs hP hD hS => ?_)
        refine lv_iinc (v := nI (k + 1)) (lv' := [(1, .int (nI (k + 1))), (0, .ref (ad 0))]) hx hb d_Mo_noMultipliers_15 hl (k := 0) rfl (nI_inc _) (by decide) rfl (fun ls hl => ?_)
        refine lv_goto (tgt := 2) hx hb d_Mo_noMultipliers_18 (by decide) ?_
        exact ih (k + 1) (by omega) (by omega) H locs hP hD hS ls (lv_sub hl [0, 1] rfl)
  refine lv_iconst (v := 0) hx hb d_Mo_noMultipliers_0 (by decide) ?_
  refine lv_istore_n (lv' := [(1, .int 0), (0, .ref (ad 0))]) hx hb d_Mo_noMultipliers_1 rfl hl (by decide) rfl (fun ls hl => ?_)
  exact lp (8 + 1) 0 (by omega) (by omega) _ _ hP hD hS ls (lv_sub hl [0, 1] rfl)
theorem x_Mo_noMultipliers {σ : oS} (F : CallFix p m c cc nL s args (cw :: tt) own) (hG : Cond.methodLink own index y_Mo_noMultipliers ∈ tt) (hR : 0 + 1 ≤ R.frames ∧ 8 + (2 + 11) + 0 ≤ R.locals) (hK : va_K D vwCl (mt cI cZ) s) (hP : va_P D vwCl (mw cI cZ ad σ) H) (hD : va_D A (mw cI cZ ad σ)) (hS : va_S A H0 H locs) (hA : ∀ q, H0.size ≤ q → A q) (hsz : ls.size = nL) (hW : (rest.map fun v => v.category).sum ≤ 8) (hcs : cells ≤ R.cells ∧ slots ≤ R.slots) (hdg : decode cc pc = .ok (.invokevirtual index, 3)) (kk : ∀ (H1 : Heap) (locs1 : List Loc), va_P D vwCl (mw cI cZ ad (mo_z σ 8)) H1 → va_D A (mw cI cZ ad (mo_z σ 8)) → va_S A H0 H1 locs1 → W p l e R s m args below meth c H1 locs1 cells slots Q (F0 m (pc + 3) ls (rest))) : W p l e R s m args below meth c H locs cells slots Q (F0 m pc ls (.ref (ad 0) :: rest)) :=
  ok_VM (As := []) F (c_Mo_noMultipliers σ) 0 (tt_V hG i_Mo_noMultipliers l_Mo_noMultipliers in9_Mo k_Mo_noMultipliers) rfl ⟨rfl, rfl⟩ (by decide +kernel) hR hK hP hD hS hA (0) 6 rfl rfl mw_0 rfl hsz rfl hW hcs hdg kk
set_option maxHeartbeats 4000000 in
set_option maxRecDepth 100000 in
theorem c_Mo_kindOf (σ : oS) {r : Nat} {u : Nat} (h_r : σ 2 0 0 = nI r) (h_u : σ 3 0 0 = nI u) (hr4 : r ≤ 4) (hu4 : u ≤ 4) {x : Int32} {k : Nat} (hk : x = nI k) (hk9 : k < 8) (hk8 : k < r + u) : ok_MR l y_Mo_kindOf (Cond.code y_Mo_kindOf b_Mo_kindOf 2 (some .int) :: tt) { frames := 0, cells := 0, slots := 0, locals := 0 } D vwCl (mt cI cZ) (mw cI cZ ad σ) [.ref (ad 0), .int x] (some (.int (mo_k σ r k))) := by
  refine ok_startR (cc := b_Mo_kindOf) (own := RMo) (maxL := 2) (ret := (some .int)) (by decide +kernel) rfl rfl (Nat.le_of_ble_eq_true rfl) ?_
  intro p e s m below meth c F hr hlk hP hK ls hl
  have hl : lv_has ls 2 [(0, .ref (ad 0)), (1, .int x)] := hl
  have hx := F.1
  have hb := F.2.1
  refine lv_iload_n hx hb d_Mo_kindOf_0 rfl (lv_at hl 1 rfl) ?_
  refine lv_aload_n hx hb d_Mo_kindOf_1 rfl (lv_at hl 0 rfl) ?_
  refine gf_Mo_rows F hK hP d_Mo_kindOf_2 ?_
  refine lv_icmp_ge (tgt := 17) hx hb d_Mo_kindOf_5 (by decide) (fun c1 => ?_) (fun c1 => ?_)
  · have hlt : r ≤ k := by
      rw [h_r, hk, nI_leI (by omega) (by omega)] at c1; omega
    refine lv_iconst (v := 0) hx hb d_Mo_kindOf_17 (by decide) ?_
    exact ok_iretR F hr hlk (by first | rw [mo_k, if_pos hlt] | rw [mo_k, if_neg (by omega)]) d_Mo_kindOf_18
  · have hlt : k < r := by
      rw [h_r, hk, nI_leI (by omega) (by omega)] at c1; omega
    refine lv_aload_n hx hb d_Mo_kindOf_8 rfl (lv_at hl 0 rfl) ?_
    refine gf_Mo_kind F hK hP d_Mo_kindOf_9 ?_
    refine lv_iload_n hx hb d_Mo_kindOf_12 rfl (lv_at hl 1 rfl) ?_
    refine im_12 (j := k) F hK hP hk (by omega) d_Mo_kindOf_13 ?_
    refine lv_goto (tgt := 18) hx hb d_Mo_kindOf_14 (by decide) ?_
    exact ok_iretR F hr hlk (by first | rw [mo_k, if_pos hlt] | rw [mo_k, if_neg (by omega)]) d_Mo_kindOf_18
theorem x_Mo_kindOf {σ : oS} {r : Nat} {u : Nat} (h_r : σ 2 0 0 = nI r) (h_u : σ 3 0 0 = nI u) (hr4 : r ≤ 4) (hu4 : u ≤ 4) {x : Int32} {k : Nat} (hk : x = nI k) (hk9 : k < 8) (hk8 : k < r + u) (F : CallFix p m c cc nL s args (cw :: tt) own) (hG : Cond.methodLink own index y_Mo_kindOf ∈ tt) (hR : 0 + 1 ≤ R.frames ∧ 8 + (2 + 11) + 0 ≤ R.locals) (hK : va_K D vwCl (mt cI cZ) s) (hP : va_P D vwCl (mw cI cZ ad σ) H) (hsz : ls.size = nL) (hW : (rest.map fun v => v.category).sum ≤ 8) (hcs : cells ≤ R.cells ∧ slots ≤ R.slots) (hdg : decode cc pc = .ok (.invokevirtual index, 3)) (kk : W p l e R s m args below meth c H locs cells slots Q (F0 m (pc + 3) ls (.int (mo_k σ r k) :: rest))) : W p l e R s m args below meth c H locs cells slots Q (F0 m pc ls (.int x :: .ref (ad 0) :: rest)) :=
  ok_VR (As := [.int x]) F (c_Mo_kindOf σ h_r h_u hr4 hu4 hk hk9 hk8) 1 (tt_V hG i_Mo_kindOf l_Mo_kindOf in9_Mo k_Mo_kindOf) rfl ⟨rfl, rfl⟩ (by decide +kernel) hR hK hP (0) 6 rfl rfl mw_0 rfl hsz rfl hW hcs hdg kk
set_option maxHeartbeats 4000000 in
set_option maxRecDepth 100000 in
theorem c_Mo_rightOf (σ : oS) {r : Nat} {u : Nat} (h_r : σ 2 0 0 = nI r) (h_u : σ 3 0 0 = nI u) (hr4 : r ≤ 4) (hu4 : u ≤ 4) (hok : mo_ok σ u) {x : Int32} {k : Nat} (hk : x = nI k) (hk9 : k < 8) (hk8 : k < r + u) : ok_MR l y_Mo_rightOf (Cond.code y_Mo_rightOf b_Mo_rightOf 4 (some .int) :: tt) { frames := 0, cells := 0, slots := 0, locals := 0 } D vwCl (mt cI cZ) (mw cI cZ ad σ) [.ref (ad 0), .int x] (some (.int (mo_r σ r k))) := by
  refine ok_startR (cc := b_Mo_rightOf) (own := RMo) (maxL := 4) (ret := (some .int)) (by decide +kernel) rfl rfl (Nat.le_of_ble_eq_true rfl) ?_
  intro p e s m below meth c F hr hlk hP hK ls hl
  have hl : lv_has ls 4 [(0, .ref (ad 0)), (1, .int x)] := hl
  have hx := F.1
  have hb := F.2.1
  refine lv_iload_n hx hb d_Mo_rightOf_0 rfl (lv_at hl 1 rfl) ?_
  refine lv_aload_n hx hb d_Mo_rightOf_1 rfl (lv_at hl 0 rfl) ?_
  refine gf_Mo_rows F hK hP d_Mo_rightOf_2 ?_
  refine lv_icmp_ge (tgt := 15) hx hb d_Mo_rightOf_5 (by decide) (fun c1 => ?_) (fun c1 => ?_)
  · have hlt : r ≤ k := by
      rw [h_r, hk, nI_leI (by omega) (by omega)] at c1; omega
    refine lv_aload_n hx hb d_Mo_rightOf_15 rfl (lv_at hl 0 rfl) ?_
    refine gf_Mo_top F hK hP d_Mo_rightOf_16 ?_
    refine lv_aload_n hx hb d_Mo_rightOf_19 rfl (lv_at hl 0 rfl) ?_
    refine gf_Mo_cutA F hK hP d_Mo_rightOf_20 ?_
    refine lv_iload_n hx hb d_Mo_rightOf_23 rfl (lv_at hl 1 rfl) ?_
    refine lv_aload_n hx hb d_Mo_rightOf_24 rfl (lv_at hl 0 rfl) ?_
    refine gf_Mo_rows F hK hP d_Mo_rightOf_25 ?_
    refine lv_isub hx hb d_Mo_rightOf_28 ?_
    refine im_15 (j := (k - r)) F hK hP (by rw [hk, h_r]; exact pk_sub (by omega)) (by omega) d_Mo_rightOf_29 ?_
    refine im_11 (j := (mo_A σ (k - r))) F hK hP (hok (k - r) (by omega)).1 (hok (k - r) (by omega)).2.1 d_Mo_rightOf_30 ?_
    refine lv_istore_n (lv' := [(2, .int (σ 11 0 (mo_A σ (k - r)))), (0, .ref (ad 0)), (1, .int x)]) hx hb d_Mo_rightOf_31 rfl hl (by decide) rfl (fun ls hl => ?_)
    refine lv_aload_n hx hb d_Mo_rightOf_32 rfl (lv_at hl 1 rfl) ?_
    refine gf_Mo_top F hK hP d_Mo_rightOf_33 ?_
    refine lv_aload_n hx hb d_Mo_rightOf_36 rfl (lv_at hl 1 rfl) ?_
    refine gf_Mo_cutB F hK hP d_Mo_rightOf_37 ?_
    refine lv_iload_n hx hb d_Mo_rightOf_40 rfl (lv_at hl 2 rfl) ?_
    refine lv_aload_n hx hb d_Mo_rightOf_41 rfl (lv_at hl 1 rfl) ?_
    refine gf_Mo_rows F hK hP d_Mo_rightOf_42 ?_
    refine lv_isub hx hb d_Mo_rightOf_45 ?_
    refine im_16 (j := (k - r)) F hK hP (by rw [hk, h_r]; exact pk_sub (by omega)) (by omega) d_Mo_rightOf_46 ?_
    refine im_11 (j := (mo_B σ (k - r))) F hK hP (hok (k - r) (by omega)).2.2.1 (hok (k - r) (by omega)).2.2.2 d_Mo_rightOf_47 ?_
    refine lv_istore_n (lv' := [(3, .int (σ 11 0 (mo_B σ (k - r)))), (2, .int (σ 11 0 (mo_A σ (k - r)))), (0, .ref (ad 0)), (1, .int x)]) hx hb d_Mo_rightOf_48 rfl hl (by decide) rfl (fun ls hl => ?_)
    refine lv_iload_n hx hb d_Mo_rightOf_49 rfl (lv_at hl 1 rfl) ?_
    refine lv_iload_n hx hb d_Mo_rightOf_50 rfl (lv_at hl 0 rfl) ?_
    refine lv_icmp_le (tgt := 58) hx hb d_Mo_rightOf_51 (by decide) (fun c2 => ?_) (fun c2 => ?_)
    · refine lv_iload_n hx hb d_Mo_rightOf_58 rfl (lv_at hl 0 rfl) ?_
      exact ok_iretR F hr hlk (by rw [mo_r, if_neg (by omega)]; first | rw [if_pos c2] | rw [if_neg c2]) d_Mo_rightOf_59
    · refine lv_iload_n hx hb d_Mo_rightOf_54 rfl (lv_at hl 1 rfl) ?_
      refine lv_goto (tgt := 59) hx hb d_Mo_rightOf_55 (by decide) ?_
      exact ok_iretR F hr hlk (by rw [mo_r, if_neg (by omega)]; first | rw [if_pos c2] | rw [if_neg c2]) d_Mo_rightOf_59
  · have hlt : k < r := by
      rw [h_r, hk, nI_leI (by omega) (by omega)] at c1; omega
    refine lv_aload_n hx hb d_Mo_rightOf_8 rfl (lv_at hl 0 rfl) ?_
    refine gf_Mo_right F hK hP d_Mo_rightOf_9 ?_
    refine lv_iload_n hx hb d_Mo_rightOf_12 rfl (lv_at hl 1 rfl) ?_
    refine im_13 (j := k) F hK hP hk (by omega) d_Mo_rightOf_13 ?_
    exact ok_iretR F hr hlk (by rw [mo_r, if_pos hlt]) d_Mo_rightOf_14
theorem x_Mo_rightOf {σ : oS} {r : Nat} {u : Nat} (h_r : σ 2 0 0 = nI r) (h_u : σ 3 0 0 = nI u) (hr4 : r ≤ 4) (hu4 : u ≤ 4) (hok : mo_ok σ u) {x : Int32} {k : Nat} (hk : x = nI k) (hk9 : k < 8) (hk8 : k < r + u) (F : CallFix p m c cc nL s args (cw :: tt) own) (hG : Cond.methodLink own index y_Mo_rightOf ∈ tt) (hR : 0 + 1 ≤ R.frames ∧ 8 + (4 + 11) + 0 ≤ R.locals) (hK : va_K D vwCl (mt cI cZ) s) (hP : va_P D vwCl (mw cI cZ ad σ) H) (hsz : ls.size = nL) (hW : (rest.map fun v => v.category).sum ≤ 8) (hcs : cells ≤ R.cells ∧ slots ≤ R.slots) (hdg : decode cc pc = .ok (.invokevirtual index, 3)) (kk : W p l e R s m args below meth c H locs cells slots Q (F0 m (pc + 3) ls (.int (mo_r σ r k) :: rest))) : W p l e R s m args below meth c H locs cells slots Q (F0 m pc ls (.int x :: .ref (ad 0) :: rest)) :=
  ok_VR (As := [.int x]) F (c_Mo_rightOf σ h_r h_u hr4 hu4 hok hk hk9 hk8) 1 (tt_V hG i_Mo_rightOf l_Mo_rightOf in9_Mo k_Mo_rightOf) rfl ⟨rfl, rfl⟩ (by decide +kernel) hR hK hP (0) 6 rfl rfl mw_0 rfl hsz rfl hW hcs hdg kk
set_option maxHeartbeats 4000000 in
set_option maxRecDepth 100000 in
theorem c_Mo_factorOf (σ : oS) {r : Nat} {u : Nat} (h_r : σ 2 0 0 = nI r) (h_u : σ 3 0 0 = nI u) (hr4 : r ≤ 4) (hu4 : u ≤ 4) {x : Int32} {k : Nat} (hk : x = nI k) (hk9 : k < 8) (hk8 : k < r + u) {y : Int32} {j : Nat} (hj : y = nI j) (hj9 : j < 5) : ok_MR l y_Mo_factorOf (Cond.code y_Mo_factorOf b_Mo_factorOf 3 (some .int) :: tt) { frames := 0, cells := 0, slots := 0, locals := 0 } D vwCl (mt cI cZ) (mw cI cZ ad σ) [.ref (ad 0), .int x, .int y] (some (.int (mo_f σ r k j))) := by
  refine ok_startR (cc := b_Mo_factorOf) (own := RMo) (maxL := 3) (ret := (some .int)) (by decide +kernel) rfl rfl (Nat.le_of_ble_eq_true rfl) ?_
  intro p e s m below meth c F hr hlk hP hK ls hl
  have hl : lv_has ls 3 [(0, .ref (ad 0)), (1, .int x), (2, .int y)] := hl
  have hx := F.1
  have hb := F.2.1
  refine lv_iload_n hx hb d_Mo_factorOf_0 rfl (lv_at hl 1 rfl) ?_
  refine lv_aload_n hx hb d_Mo_factorOf_1 rfl (lv_at hl 0 rfl) ?_
  refine gf_Mo_rows F hK hP d_Mo_factorOf_2 ?_
  refine lv_icmp_ge (tgt := 19) hx hb d_Mo_factorOf_5 (by decide) (fun c1 => ?_) (fun c1 => ?_)
  · have hlt : r ≤ k := by
      rw [h_r, hk, nI_leI (by omega) (by omega)] at c1; omega
    refine lv_aload_n hx hb d_Mo_factorOf_19 rfl (lv_at hl 0 rfl) ?_
    refine gf_Mo_cutA F hK hP d_Mo_factorOf_20 ?_
    refine lv_iload_n hx hb d_Mo_factorOf_23 rfl (lv_at hl 1 rfl) ?_
    refine lv_aload_n hx hb d_Mo_factorOf_24 rfl (lv_at hl 0 rfl) ?_
    refine gf_Mo_rows F hK hP d_Mo_factorOf_25 ?_
    refine lv_isub hx hb d_Mo_factorOf_28 ?_
    refine im_15 (j := (k - r)) F hK hP (by rw [hk, h_r]; exact pk_sub (by omega)) (by omega) d_Mo_factorOf_29 ?_
    refine lv_iload_n hx hb d_Mo_factorOf_30 rfl (lv_at hl 2 rfl) ?_
    refine lv_icmp_eq (tgt := 49) hx hb d_Mo_factorOf_31 (by decide) (fun c2 => ?_) (fun c2 => ?_)
    · refine lv_iconst (v := 1) hx hb d_Mo_factorOf_49 (by decide) ?_
      refine lv_goto (tgt := 54) hx hb d_Mo_factorOf_50 (by decide) ?_
      exact ok_iretR F hr hlk (by rw [mo_f, if_neg (by omega), ← hj]; rw [if_pos c2]) d_Mo_factorOf_54
    · refine lv_aload_n hx hb d_Mo_factorOf_34 rfl (lv_at hl 0 rfl) ?_
      refine gf_Mo_cutB F hK hP d_Mo_factorOf_35 ?_
      refine lv_iload_n hx hb d_Mo_factorOf_38 rfl (lv_at hl 1 rfl) ?_
      refine lv_aload_n hx hb d_Mo_factorOf_39 rfl (lv_at hl 0 rfl) ?_
      refine gf_Mo_rows F hK hP d_Mo_factorOf_40 ?_
      refine lv_isub hx hb d_Mo_factorOf_43 ?_
      refine im_16 (j := (k - r)) F hK hP (by rw [hk, h_r]; exact pk_sub (by omega)) (by omega) d_Mo_factorOf_44 ?_
      refine lv_iload_n hx hb d_Mo_factorOf_45 rfl (lv_at hl 2 rfl) ?_
      refine lv_icmp_ne (tgt := 53) hx hb d_Mo_factorOf_46 (by decide) (fun c3 => ?_) (fun c3 => ?_)
      · refine lv_iconst (v := 0) hx hb d_Mo_factorOf_53 (by decide) ?_
        exact ok_iretR F hr hlk (by rw [mo_f, if_neg (by omega), ← hj]; rw [if_neg c2]; first | rw [if_pos c3] | rw [if_neg c3]) d_Mo_factorOf_54
      · refine lv_iconst (v := 1) hx hb d_Mo_factorOf_49 (by decide) ?_
        refine lv_goto (tgt := 54) hx hb d_Mo_factorOf_50 (by decide) ?_
        exact ok_iretR F hr hlk (by rw [mo_f, if_neg (by omega), ← hj]; rw [if_neg c2]; first | rw [if_pos c3] | rw [if_neg c3]) d_Mo_factorOf_54
  · have hlt : k < r := by
      rw [h_r, hk, nI_leI (by omega) (by omega)] at c1; omega
    refine lv_aload_n hx hb d_Mo_factorOf_8 rfl (lv_at hl 0 rfl) ?_
    refine gf_Mo_factor F hK hP d_Mo_factorOf_9 ?_
    refine lv_iconst (v := 5) hx hb d_Mo_factorOf_12 (by decide) ?_
    refine lv_iload_n hx hb d_Mo_factorOf_13 rfl (lv_at hl 1 rfl) ?_
    refine lv_imul hx hb d_Mo_factorOf_14 ?_
    refine lv_iload_n hx hb d_Mo_factorOf_15 rfl (lv_at hl 2 rfl) ?_
    refine lv_iadd hx hb d_Mo_factorOf_16 ?_
    refine im_14 (j := (5 * k + j)) F hK hP (by rw [hk, hj]; exact mo_ix) (by omega) d_Mo_factorOf_17 ?_
    exact ok_iretR F hr hlk (by rw [mo_f, if_pos hlt]) d_Mo_factorOf_18
theorem x_Mo_factorOf {σ : oS} {r : Nat} {u : Nat} (h_r : σ 2 0 0 = nI r) (h_u : σ 3 0 0 = nI u) (hr4 : r ≤ 4) (hu4 : u ≤ 4) {x : Int32} {k : Nat} (hk : x = nI k) (hk9 : k < 8) (hk8 : k < r + u) {y : Int32} {j : Nat} (hj : y = nI j) (hj9 : j < 5) (F : CallFix p m c cc nL s args (cw :: tt) own) (hG : Cond.methodLink own index y_Mo_factorOf ∈ tt) (hR : 0 + 1 ≤ R.frames ∧ 8 + (3 + 11) + 0 ≤ R.locals) (hK : va_K D vwCl (mt cI cZ) s) (hP : va_P D vwCl (mw cI cZ ad σ) H) (hsz : ls.size = nL) (hW : (rest.map fun v => v.category).sum ≤ 8) (hcs : cells ≤ R.cells ∧ slots ≤ R.slots) (hdg : decode cc pc = .ok (.invokevirtual index, 3)) (kk : W p l e R s m args below meth c H locs cells slots Q (F0 m (pc + 3) ls (.int (mo_f σ r k j) :: rest))) : W p l e R s m args below meth c H locs cells slots Q (F0 m pc ls (.int y :: .int x :: .ref (ad 0) :: rest)) :=
  ok_VR (As := [.int x, .int y]) F (c_Mo_factorOf σ h_r h_u hr4 hu4 hk hk9 hk8 hj hj9) 2 (tt_V hG i_Mo_factorOf l_Mo_factorOf in9_Mo k_Mo_factorOf) rfl ⟨rfl, rfl⟩ (by decide +kernel) hR hK hP (0) 6 rfl rfl mw_0 rfl hsz rfl hW hcs hdg kk
set_option maxHeartbeats 4000000 in
set_option maxRecDepth 100000 in
theorem c_Mo_canHold (σ : oS) {r : Nat} {u : Nat} (h_r : σ 2 0 0 = nI r) (h_u : σ 3 0 0 = nI u) (hr4 : r ≤ 4) (hu4 : u ≤ 4) {n : Nat} (hn : σ 1 0 0 = nI n) (hn9 : n ≤ 5) (hok : mo_ok σ u) {x : Int32} {k : Nat} (hk : x = nI k) (hk9 : k < 8) (hk8 : k < r + u) {w : Nat} (hw : w = 11 ∨ w = 14) {y : Int32} {m0 : Nat} (hm0 : y = nI m0) (hm09 : m0 < 6) (hmn : m0 ≤ n) : ok_MR l y_Mo_canHold (Cond.code y_Mo_canHold b_Mo_canHold 7 (some .boolean) :: tt) { frames := 1, cells := 0, slots := 0, locals := 23 } D vwCl (mt cI cZ) (mw cI cZ ad σ) [.ref (ad 0), .int x, .ref (ad w), .int y] (some (.int (mo_h σ r k (mo_s2 σ r k m0 (mo_s1 σ r k w m0) (n - m0))))) := by
  refine ok_startR (cc := b_Mo_canHold) (own := RMo) (maxL := 7) (ret := (some .boolean)) (by decide +kernel) rfl rfl (Nat.le_of_ble_eq_true rfl) ?_
  intro p e s m below meth c F hr hlk hP hK ls hl
  have hl : lv_has ls 7 [(0, .ref (ad 0)), (1, .int x), (2, .ref (ad w)), (3, .int y)] := hl
  have hx := F.1
  have hb := F.2.1
  have lq : ∀ (f d : Nat), m0 + d ≤ n → n - (m0 + d) < f → ∀ ls : Array Slot, lv_has ls 7 [(5, .int (nI (m0 + d))), (4, .int (mo_s2 σ r k m0 (mo_s1 σ r k w m0) d)), (0, .ref (ad 0)), (1, .int x), (2, .ref (ad w)), (3, .int y)] → W p l e { frames := 1, cells := 0, slots := 0, locals := 23 } s m ([.ref (ad 0), .int x, .ref (ad w), .int y] : List Value).toArray below meth c s.heap [] 0 0 (MQ below (ok_R (some (.int (mo_h σ r k (mo_s2 σ r k m0 (mo_s1 σ r k w m0) (n - m0)))))) ([.ref (ad 0), .int x, .ref (ad w), .int y] : List Value).toArray s 0 0 (fun _ => False)) (F0 m 38 ls []) := by
    intro f
    induction f with
    | zero => intro d h1 h2; omega
    | succ f ih =>
      intro d h1 h2 ls hl
      refine lv_iload hx hb d_Mo_canHold_38 (lv_at hl 0 rfl) ?_
      refine lv_aload_n hx hb d_Mo_canHold_40 rfl (lv_at hl 2 rfl) ?_
      refine gf_Mo_columns F hK hP d_Mo_canHold_41 ?_
      refine lv_icmp_ge (tgt := 98) hx hb d_Mo_canHold_44 (by decide) (fun c1 => ?_) (fun c1 => ?_)
      · have hdn : n = m0 + d := by
          rw [hn, nI_leI (by omega) (by omega)] at c1; omega
        have hS2 : mo_s2 σ r k m0 (mo_s1 σ r k w m0) d = mo_s2 σ r k m0 (mo_s1 σ r k w m0) (n - m0) := by rw [show n - m0 = d by omega]
        refine lv_aload_n hx hb d_Mo_canHold_98 rfl (lv_at hl 2 rfl) ?_
        refine lv_iload_n hx hb d_Mo_canHold_99 rfl (lv_at hl 3 rfl) ?_
        refine x_Mo_kindOf (r := r) (u := u) h_r h_u hr4 hu4 (k := k) hk (by omega) (by omega) F (tt4 47 rfl rfl) ⟨Nat.le_of_ble_eq_true rfl, Nat.le_of_ble_eq_true rfl⟩ hK hP hl.1 (Nat.le_of_ble_eq_true rfl) ⟨Nat.zero_le _, Nat.zero_le _⟩ d_Mo_canHold_100 ?_
        refine lv_if_ne (tgt := 124) hx hb d_Mo_canHold_103 (by decide) (fun c2 => ?_) (fun c2 => ?_)
        · refine lv_iload hx hb d_Mo_canHold_124 (lv_at hl 1 rfl) ?_
          refine lv_aload_n hx hb d_Mo_canHold_126 rfl (lv_at hl 2 rfl) ?_
          refine lv_iload_n hx hb d_Mo_canHold_127 rfl (lv_at hl 3 rfl) ?_
          refine x_Mo_rightOf (r := r) (u := u) h_r h_u hr4 hu4 hok (k := k) hk (by omega) (by omega) F (tt4 51 rfl rfl) ⟨Nat.le_of_ble_eq_true rfl, Nat.le_of_ble_eq_true rfl⟩ hK hP hl.1 (Nat.le_of_ble_eq_true rfl) ⟨Nat.zero_le _, Nat.zero_le _⟩ d_Mo_canHold_128 ?_
          refine lv_icmp_lt (tgt := 138) hx hb d_Mo_canHold_131 (by decide) (fun c3 => ?_) (fun c3 => ?_)
          · refine lv_iconst (v := 0) hx hb d_Mo_canHold_138 (by decide) ?_
            exact ok_zretR F hr hlk (rfl) (by rw [← hS2, mo_h]; first | rw [if_pos c2, if_pos c3] | rw [if_pos c2, if_neg c3] | rw [if_neg c2, if_pos c3] | rw [if_neg c2, if_neg c3]) d_Mo_canHold_139
          · refine lv_iconst (v := 1) hx hb d_Mo_canHold_134 (by decide) ?_
            refine lv_goto (tgt := 139) hx hb d_Mo_canHold_135 (by decide) ?_
            exact ok_zretR F hr hlk (rfl) (by rw [← hS2, mo_h]; first | rw [if_pos c2, if_pos c3] | rw [if_pos c2, if_neg c3] | rw [if_neg c2, if_pos c3] | rw [if_neg c2, if_neg c3]) d_Mo_canHold_139
        · refine lv_iload hx hb d_Mo_canHold_106 (lv_at hl 1 rfl) ?_
          refine lv_aload_n hx hb d_Mo_canHold_108 rfl (lv_at hl 2 rfl) ?_
          refine lv_iload_n hx hb d_Mo_canHold_109 rfl (lv_at hl 3 rfl) ?_
          refine x_Mo_rightOf (r := r) (u := u) h_r h_u hr4 hu4 hok (k := k) hk (by omega) (by omega) F (tt4 51 rfl rfl) ⟨Nat.le_of_ble_eq_true rfl, Nat.le_of_ble_eq_true rfl⟩ hK hP hl.1 (Nat.le_of_ble_eq_true rfl) ⟨Nat.zero_le _, Nat.zero_le _⟩ d_Mo_canHold_110 ?_
          refine lv_icmp_gt (tgt := 120) hx hb d_Mo_canHold_113 (by decide) (fun c4 => ?_) (fun c4 => ?_)
          · refine lv_iconst (v := 0) hx hb d_Mo_canHold_120 (by decide) ?_
            refine lv_goto (tgt := 139) hx hb d_Mo_canHold_121 (by decide) ?_
            exact ok_zretR F hr hlk (rfl) (by rw [← hS2, mo_h]; first | rw [if_pos c2, if_pos c4] | rw [if_pos c2, if_neg c4] | rw [if_neg c2, if_pos c4] | rw [if_neg c2, if_neg c4]) d_Mo_canHold_139
          · refine lv_iconst (v := 1) hx hb d_Mo_canHold_116 (by decide) ?_
            refine lv_goto (tgt := 139) hx hb d_Mo_canHold_117 (by decide) ?_
            exact ok_zretR F hr hlk (rfl) (by rw [← hS2, mo_h]; first | rw [if_pos c2, if_pos c4] | rw [if_pos c2, if_neg c4] | rw [if_neg c2, if_pos c4] | rw [if_neg c2, if_neg c4]) d_Mo_canHold_139
      · have hdn : m0 + d < n := by
          rw [hn, nI_leI (by omega) (by omega)] at c1; omega
        refine lv_aload_n hx hb d_Mo_canHold_47 rfl (lv_at hl 2 rfl) ?_
        refine lv_iload_n hx hb d_Mo_canHold_48 rfl (lv_at hl 3 rfl) ?_
        refine lv_iload hx hb d_Mo_canHold_49 (lv_at hl 0 rfl) ?_
        refine x_Mo_factorOf (r := r) (u := u) h_r h_u hr4 hu4 (k := k) hk (by omega) (by omega) (j := (m0 + d)) rfl (by omega) F (tt4 43 rfl rfl) ⟨Nat.le_of_ble_eq_true rfl, Nat.le_of_ble_eq_true rfl⟩ hK hP hl.1 (Nat.le_of_ble_eq_true rfl) ⟨Nat.zero_le _, Nat.zero_le _⟩ d_Mo_canHold_51 ?_
        refine lv_aload_n hx hb d_Mo_canHold_54 rfl (lv_at hl 2 rfl) ?_
        refine gf_Mo_top F hK hP d_Mo_canHold_55 ?_
        refine lv_iload hx hb d_Mo_canHold_58 (lv_at hl 0 rfl) ?_
        refine im_11 (j := (m0 + d)) F hK hP rfl (by omega) d_Mo_canHold_60 ?_
        refine lv_imul hx hb d_Mo_canHold_61 ?_
        refine lv_istore (lv' := [(6, .int ((mo_f σ r k (m0 + d)) * (σ 11 0 (m0 + d)))), (5, .int (nI (m0 + d))), (4, .int (mo_s2 σ r k m0 (mo_s1 σ r k w m0) d)), (0, .ref (ad 0)), (1, .int x), (2, .ref (ad w)), (3, .int y)]) hx hb d_Mo_canHold_62 hl (by decide) rfl (fun ls hl => ?_)
        refine lv_aload_n hx hb d_Mo_canHold_64 rfl (lv_at hl 3 rfl) ?_
        refine lv_iload_n hx hb d_Mo_canHold_65 rfl (lv_at hl 4 rfl) ?_
        refine x_Mo_kindOf (r := r) (u := u) h_r h_u hr4 hu4 (k := k) hk (by omega) (by omega) F (tt4 47 rfl rfl) ⟨Nat.le_of_ble_eq_true rfl, Nat.le_of_ble_eq_true rfl⟩ hK hP hl.1 (Nat.le_of_ble_eq_true rfl) ⟨Nat.zero_le _, Nat.zero_le _⟩ d_Mo_canHold_66 ?_
        refine lv_if_ne (tgt := 80) hx hb d_Mo_canHold_69 (by decide) (fun c5 => ?_) (fun c5 => ?_)
        · refine lv_iload hx hb d_Mo_canHold_80 (lv_at hl 0 rfl) ?_
          refine lv_if_le (tgt := 92) hx hb d_Mo_canHold_82 (by decide) (fun c6 => ?_) (fun c6 => ?_)
          · refine lv_iinc (v := nI (m0 + d + 1)) (lv' := [(5, .int (nI (m0 + d + 1))), (6, .int ((mo_f σ r k (m0 + d)) * (σ 11 0 (m0 + d)))), (4, .int (mo_s2 σ r k m0 (mo_s1 σ r k w m0) d)), (0, .ref (ad 0)), (1, .int x), (2, .ref (ad w)), (3, .int y)]) hx hb d_Mo_canHold_92 hl (k := 1) rfl (nI_inc _) (by decide) rfl (fun ls hl => ?_)
            refine lv_goto (tgt := 38) hx hb d_Mo_canHold_95 (by decide) ?_
            have e9 : mo_s2 σ r k m0 (mo_s1 σ r k w m0) (d + 1) = mo_s2 σ r k m0 (mo_s1 σ r k w m0) d := by
              rw [mo_s2, mo_y]; first | rw [if_pos c5, if_pos c6] | rw [if_pos c5, if_neg c6] | rw [if_neg c5, if_pos c6] | rw [if_neg c5, if_neg c6]
            exact ih (d + 1) (by omega) (by omega) ls (by rw [e9]; exact (lv_sub hl [0, 2, 3, 4, 5, 6] rfl))
          · refine lv_iload hx hb d_Mo_canHold_85 (lv_at hl 2 rfl) ?_
            refine lv_iload hx hb d_Mo_canHold_87 (lv_at hl 0 rfl) ?_
            refine lv_iadd hx hb d_Mo_canHold_89 ?_
            refine lv_istore (lv' := [(4, .int ((mo_s2 σ r k m0 (mo_s1 σ r k w m0) d) + ((mo_f σ r k (m0 + d)) * (σ 11 0 (m0 + d))))), (6, .int ((mo_f σ r k (m0 + d)) * (σ 11 0 (m0 + d)))), (5, .int (nI (m0 + d))), (0, .ref (ad 0)), (1, .int x), (2, .ref (ad w)), (3, .int y)]) hx hb d_Mo_canHold_90 hl (by decide) rfl (fun ls hl => ?_)
            refine lv_iinc (v := nI (m0 + d + 1)) (lv' := [(5, .int (nI (m0 + d + 1))), (4, .int ((mo_s2 σ r k m0 (mo_s1 σ r k w m0) d) + ((mo_f σ r k (m0 + d)) * (σ 11 0 (m0 + d))))), (6, .int ((mo_f σ r k (m0 + d)) * (σ 11 0 (m0 + d)))), (0, .ref (ad 0)), (1, .int x), (2, .ref (ad w)), (3, .int y)]) hx hb d_Mo_canHold_92 hl (k := 2) rfl (nI_inc _) (by decide) rfl (fun ls hl => ?_)
            refine lv_goto (tgt := 38) hx hb d_Mo_canHold_95 (by decide) ?_
            have e9 : mo_s2 σ r k m0 (mo_s1 σ r k w m0) (d + 1) = (mo_s2 σ r k m0 (mo_s1 σ r k w m0) d) + ((mo_f σ r k (m0 + d)) * (σ 11 0 (m0 + d))) := by
              rw [mo_s2, mo_y]; first | rw [if_pos c5, if_pos c6] | rw [if_pos c5, if_neg c6] | rw [if_neg c5, if_pos c6] | rw [if_neg c5, if_neg c6]
            exact ih (d + 1) (by omega) (by omega) ls (by rw [e9]; exact (lv_sub hl [0, 1, 3, 4, 5, 6] rfl))
        · refine lv_iload hx hb d_Mo_canHold_72 (lv_at hl 0 rfl) ?_
          refine lv_if_ge (tgt := 92) hx hb d_Mo_canHold_74 (by decide) (fun c7 => ?_) (fun c7 => ?_)
          · refine lv_iinc (v := nI (m0 + d + 1)) (lv' := [(5, .int (nI (m0 + d + 1))), (6, .int ((mo_f σ r k (m0 + d)) * (σ 11 0 (m0 + d)))), (4, .int (mo_s2 σ r k m0 (mo_s1 σ r k w m0) d)), (0, .ref (ad 0)), (1, .int x), (2, .ref (ad w)), (3, .int y)]) hx hb d_Mo_canHold_92 hl (k := 1) rfl (nI_inc _) (by decide) rfl (fun ls hl => ?_)
            refine lv_goto (tgt := 38) hx hb d_Mo_canHold_95 (by decide) ?_
            have e9 : mo_s2 σ r k m0 (mo_s1 σ r k w m0) (d + 1) = mo_s2 σ r k m0 (mo_s1 σ r k w m0) d := by
              rw [mo_s2, mo_y]; first | rw [if_pos c5, if_pos c7] | rw [if_pos c5, if_neg c7] | rw [if_neg c5, if_pos c7] | rw [if_neg c5, if_neg c7]
            exact ih (d + 1) (by omega) (by omega) ls (by rw [e9]; exact (lv_sub hl [0, 2, 3, 4, 5, 6] rfl))
          · refine lv_goto (tgt := 85) hx hb d_Mo_canHold_77 (by decide) ?_
            refine lv_iload hx hb d_Mo_canHold_85 (lv_at hl 2 rfl) ?_
            refine lv_iload hx hb d_Mo_canHold_87 (lv_at hl 0 rfl) ?_
            refine lv_iadd hx hb d_Mo_canHold_89 ?_
            refine lv_istore (lv' := [(4, .int ((mo_s2 σ r k m0 (mo_s1 σ r k w m0) d) + ((mo_f σ r k (m0 + d)) * (σ 11 0 (m0 + d))))), (6, .int ((mo_f σ r k (m0 + d)) * (σ 11 0 (m0 + d)))), (5, .int (nI (m0 + d))), (0, .ref (ad 0)), (1, .int x), (2, .ref (ad w)), (3, .int y)]) hx hb d_Mo_canHold_90 hl (by decide) rfl (fun ls hl => ?_)
            refine lv_iinc (v := nI (m0 + d + 1)) (lv' := [(5, .int (nI (m0 + d + 1))), (4, .int ((mo_s2 σ r k m0 (mo_s1 σ r k w m0) d) + ((mo_f σ r k (m0 + d)) * (σ 11 0 (m0 + d))))), (6, .int ((mo_f σ r k (m0 + d)) * (σ 11 0 (m0 + d)))), (0, .ref (ad 0)), (1, .int x), (2, .ref (ad w)), (3, .int y)]) hx hb d_Mo_canHold_92 hl (k := 2) rfl (nI_inc _) (by decide) rfl (fun ls hl => ?_)
            refine lv_goto (tgt := 38) hx hb d_Mo_canHold_95 (by decide) ?_
            have e9 : mo_s2 σ r k m0 (mo_s1 σ r k w m0) (d + 1) = (mo_s2 σ r k m0 (mo_s1 σ r k w m0) d) + ((mo_f σ r k (m0 + d)) * (σ 11 0 (m0 + d))) := by
              rw [mo_s2, mo_y]; first | rw [if_pos c5, if_pos c7] | rw [if_pos c5, if_neg c7] | rw [if_neg c5, if_pos c7] | rw [if_neg c5, if_neg c7]
            exact ih (d + 1) (by omega) (by omega) ls (by rw [e9]; exact (lv_sub hl [0, 1, 3, 4, 5, 6] rfl))
  have lp : ∀ (f a : Nat), a ≤ m0 → m0 - a < f → ∀ ls : Array Slot, lv_has ls 7 [(5, .int (nI a)), (4, .int (mo_s1 σ r k w a)), (0, .ref (ad 0)), (1, .int x), (2, .ref (ad w)), (3, .int y)] → W p l e { frames := 1, cells := 0, slots := 0, locals := 23 } s m ([.ref (ad 0), .int x, .ref (ad w), .int y] : List Value).toArray below meth c s.heap [] 0 0 (MQ below (ok_R (some (.int (mo_h σ r k (mo_s2 σ r k m0 (mo_s1 σ r k w m0) (n - m0)))))) ([.ref (ad 0), .int x, .ref (ad w), .int y] : List Value).toArray s 0 0 (fun _ => False)) (F0 m 6 ls []) := by
    intro f
    induction f with
    | zero => intro a h1 h2; omega
    | succ f ih =>
      intro a h1 h2 ls hl
      refine lv_iload hx hb d_Mo_canHold_6 (lv_at hl 0 rfl) ?_
      refine lv_iload_n hx hb d_Mo_canHold_8 rfl (lv_at hl 5 rfl) ?_
      refine lv_icmp_ge (tgt := 35) hx hb d_Mo_canHold_9 (by decide) (fun c8 => ?_) (fun c8 => ?_)
      · have hkn : m0 = a := by
          rw [hm0, nI_leI (by omega) (by omega)] at c8; omega
        subst hkn
        refine lv_iload_n hx hb d_Mo_canHold_35 rfl (lv_at hl 5 rfl) ?_
        refine lv_istore (lv' := [(5, .int y), (4, .int (mo_s1 σ r k w m0)), (0, .ref (ad 0)), (1, .int x), (2, .ref (ad w)), (3, .int y)]) hx hb d_Mo_canHold_36 hl (by decide) rfl (fun ls hl => ?_)
        have hl : lv_has ls 7 [(5, .int (nI (m0 + 0))), (4, .int (mo_s2 σ r k m0 (mo_s1 σ r k w m0) 0)), (0, .ref (ad 0)), (1, .int x), (2, .ref (ad w)), (3, .int y)] := by rw [Nat.add_zero, ← hm0]; exact (lv_sub hl [0, 1, 2, 3, 4, 5] rfl)
        exact lq (n + 1) 0 (by omega) (by omega) ls hl
      · have hkn : a < m0 := by
          rw [hm0, nI_leI (by omega) (by omega)] at c8; omega
        refine lv_iload hx hb d_Mo_canHold_12 (lv_at hl 1 rfl) ?_
        refine lv_aload_n hx hb d_Mo_canHold_14 rfl (lv_at hl 2 rfl) ?_
        refine lv_iload_n hx hb d_Mo_canHold_15 rfl (lv_at hl 3 rfl) ?_
        refine lv_iload hx hb d_Mo_canHold_16 (lv_at hl 0 rfl) ?_
        refine x_Mo_factorOf (r := r) (u := u) h_r h_u hr4 hu4 (k := k) hk (by omega) (by omega) (j := a) rfl (by omega) F (tt4 43 rfl rfl) ⟨Nat.le_of_ble_eq_true rfl, Nat.le_of_ble_eq_true rfl⟩ hK hP hl.1 (Nat.le_of_ble_eq_true rfl) ⟨Nat.zero_le _, Nat.zero_le _⟩ d_Mo_canHold_18 ?_
        refine lv_aload_n hx hb d_Mo_canHold_21 rfl (lv_at hl 4 rfl) ?_
        refine lv_iload hx hb d_Mo_canHold_22 (lv_at hl 0 rfl) ?_
        refine im_w (j := a) F hK hP hw rfl (by omega) d_Mo_canHold_24 ?_
        refine lv_imul hx hb d_Mo_canHold_25 ?_
        refine lv_iadd hx hb d_Mo_canHold_26 ?_
        refine lv_istore (lv' := [(4, .int ((mo_s1 σ r k w a) + ((mo_f σ r k a) * (σ (w + 9) 0 a)))), (5, .int (nI a)), (0, .ref (ad 0)), (1, .int x), (2, .ref (ad w)), (3, .int y)]) hx hb d_Mo_canHold_27 hl (by decide) rfl (fun ls hl => ?_)
        refine lv_iinc (v := nI (a + 1)) (lv' := [(5, .int (nI (a + 1))), (4, .int ((mo_s1 σ r k w a) + ((mo_f σ r k a) * (σ (w + 9) 0 a)))), (0, .ref (ad 0)), (1, .int x), (2, .ref (ad w)), (3, .int y)]) hx hb d_Mo_canHold_29 hl (k := 1) rfl (nI_inc _) (by decide) rfl (fun ls hl => ?_)
        refine lv_goto (tgt := 6) hx hb d_Mo_canHold_32 (by decide) ?_
        exact ih (a + 1) (by omega) (by omega) ls (lv_sub hl [0, 1, 2, 3, 4, 5] rfl)
  refine lv_iconst (v := 0) hx hb d_Mo_canHold_0 (by decide) ?_
  refine lv_istore (lv' := [(4, .int 0), (0, .ref (ad 0)), (1, .int x), (2, .ref (ad w)), (3, .int y)]) hx hb d_Mo_canHold_1 hl (by decide) rfl (fun ls hl => ?_)
  refine lv_iconst (v := 0) hx hb d_Mo_canHold_3 (by decide) ?_
  refine lv_istore (lv' := [(5, .int 0), (4, .int 0), (0, .ref (ad 0)), (1, .int x), (2, .ref (ad w)), (3, .int y)]) hx hb d_Mo_canHold_4 hl (by decide) rfl (fun ls hl => ?_)
  exact lp (m0 + 1) 0 (by omega) (by omega) ls (lv_sub hl [0, 1, 2, 3, 4, 5] rfl)
theorem x_Mo_canHold {σ : oS} {r : Nat} {u : Nat} (h_r : σ 2 0 0 = nI r) (h_u : σ 3 0 0 = nI u) (hr4 : r ≤ 4) (hu4 : u ≤ 4) {n : Nat} (hn : σ 1 0 0 = nI n) (hn9 : n ≤ 5) (hok : mo_ok σ u) {x : Int32} {k : Nat} (hk : x = nI k) (hk9 : k < 8) (hk8 : k < r + u) {w : Nat} (hw : w = 11 ∨ w = 14) {y : Int32} {m0 : Nat} (hm0 : y = nI m0) (hm09 : m0 < 6) (hmn : m0 ≤ n) (F : CallFix p m c cc nL s args (cw :: tt) own) (hG : Cond.methodLink own index y_Mo_canHold ∈ tt) (hR : 1 + 1 ≤ R.frames ∧ 8 + (7 + 11) + 23 ≤ R.locals) (hK : va_K D vwCl (mt cI cZ) s) (hP : va_P D vwCl (mw cI cZ ad σ) H) (hsz : ls.size = nL) (hW : (rest.map fun v => v.category).sum ≤ 8) (hcs : cells ≤ R.cells ∧ slots ≤ R.slots) (hdg : decode cc pc = .ok (.invokevirtual index, 3)) (kk : W p l e R s m args below meth c H locs cells slots Q (F0 m (pc + 3) ls (.int (mo_h σ r k (mo_s2 σ r k m0 (mo_s1 σ r k w m0) (n - m0))) :: rest))) : W p l e R s m args below meth c H locs cells slots Q (F0 m pc ls (.int y :: .ref (ad w) :: .int x :: .ref (ad 0) :: rest)) :=
  ok_VR (As := [.int x, .ref (ad w), .int y]) F (c_Mo_canHold σ h_r h_u hr4 hu4 hn hn9 hok hk hk9 hk8 hw hm0 hm09 hmn) 3 (tt_V hG i_Mo_canHold l_Mo_canHold in9_Mo k_Mo_canHold) rfl ⟨rfl, rfl⟩ (by decide +kernel) hR hK hP (0) 6 rfl rfl mw_0 rfl hsz rfl hW hcs hdg kk
set_option maxHeartbeats 4000000 in
set_option maxRecDepth 100000 in
theorem c_Mo_worthOf (σ : oS) {x : Int32} {m0 : Nat} (hm0 : x = nI m0) (hm09 : m0 < 6) : ok_MR l y_Mo_worthOf (Cond.code y_Mo_worthOf b_Mo_worthOf 4 (some .int) :: tt) { frames := 0, cells := 0, slots := 0, locals := 0 } D vwCl (mt cI cZ) (mw cI cZ ad σ) [.ref (ad 0), .int x] (some (.int (mo_w σ m0))) := by
  refine ok_startR (cc := b_Mo_worthOf) (own := RMo) (maxL := 4) (ret := (some .int)) (by decide +kernel) rfl rfl (Nat.le_of_ble_eq_true rfl) ?_
  intro p e s m below meth c F hr hlk hP hK ls hl
  have hl : lv_has ls 4 [(0, .ref (ad 0)), (1, .int x)] := hl
  have hx := F.1
  have hb := F.2.1
  have lp : ∀ (f k : Nat), k ≤ m0 → m0 - k < f → ∀ ls : Array Slot, lv_has ls 4 [(3, .int (nI k)), (2, .int (mo_w σ k)), (0, .ref (ad 0)), (1, .int x)] → W p l e { frames := 0, cells := 0, slots := 0, locals := 0 } s m ([.ref (ad 0), .int x] : List Value).toArray below meth c s.heap [] 0 0 (MQ below (ok_R (some (.int (mo_w σ m0)))) ([.ref (ad 0), .int x] : List Value).toArray s 0 0 (fun _ => False)) (F0 m 4 ls []) := by
    intro f
    induction f with
    | zero => intro k h1 h2; omega
    | succ f ih =>
      intro k h1 h2 ls hl
      refine lv_iload_n hx hb d_Mo_worthOf_4 rfl (lv_at hl 0 rfl) ?_
      refine lv_iload_n hx hb d_Mo_worthOf_5 rfl (lv_at hl 3 rfl) ?_
      refine lv_icmp_ge (tgt := 31) hx hb d_Mo_worthOf_6 (by decide) (fun c1 => ?_) (fun c1 => ?_)
      · have hkn : m0 = k := by
          rw [hm0, nI_leI (by omega) (by omega)] at c1; omega
        subst hkn
        refine lv_iload_n hx hb d_Mo_worthOf_31 rfl (lv_at hl 1 rfl) ?_
        exact ok_iretR F hr hlk (rfl) d_Mo_worthOf_32
      · have hkn : k < m0 := by
          rw [hm0, nI_leI (by omega) (by omega)] at c1; omega
        refine lv_iload_n hx hb d_Mo_worthOf_9 rfl (lv_at hl 1 rfl) ?_
        refine lv_aload_n hx hb d_Mo_worthOf_10 rfl (lv_at hl 2 rfl) ?_
        refine gf_Mo_worth F hK hP d_Mo_worthOf_11 ?_
        refine lv_iload_n hx hb d_Mo_worthOf_14 rfl (lv_at hl 0 rfl) ?_
        refine im_10 (j := k) F hK hP rfl (by omega) d_Mo_worthOf_15 ?_
        refine lv_aload_n hx hb d_Mo_worthOf_16 rfl (lv_at hl 2 rfl) ?_
        refine gf_Mo_number F hK hP d_Mo_worthOf_17 ?_
        refine lv_iload_n hx hb d_Mo_worthOf_20 rfl (lv_at hl 0 rfl) ?_
        refine im_20 (j := k) F hK hP rfl (by omega) d_Mo_worthOf_21 ?_
        refine lv_imul hx hb d_Mo_worthOf_22 ?_
        refine lv_iadd hx hb d_Mo_worthOf_23 ?_
        refine lv_istore_n (lv' := [(2, .int ((mo_w σ k) + ((σ 10 0 k) * (σ 20 0 k)))), (3, .int (nI k)), (0, .ref (ad 0)), (1, .int x)]) hx hb d_Mo_worthOf_24 rfl hl (by decide) rfl (fun ls hl => ?_)
        refine lv_iinc (v := nI (k + 1)) (lv' := [(3, .int (nI (k + 1))), (2, .int ((mo_w σ k) + ((σ 10 0 k) * (σ 20 0 k)))), (0, .ref (ad 0)), (1, .int x)]) hx hb d_Mo_worthOf_25 hl (k := 1) rfl (nI_inc _) (by decide) rfl (fun ls hl => ?_)
        refine lv_goto (tgt := 4) hx hb d_Mo_worthOf_28 (by decide) ?_
        exact ih (k + 1) (by omega) (by omega) ls (lv_sub hl [0, 1, 2, 3] rfl)
  refine lv_iconst (v := 0) hx hb d_Mo_worthOf_0 (by decide) ?_
  refine lv_istore_n (lv' := [(2, .int 0), (0, .ref (ad 0)), (1, .int x)]) hx hb d_Mo_worthOf_1 rfl hl (by decide) rfl (fun ls hl => ?_)
  refine lv_iconst (v := 0) hx hb d_Mo_worthOf_2 (by decide) ?_
  refine lv_istore_n (lv' := [(3, .int 0), (2, .int 0), (0, .ref (ad 0)), (1, .int x)]) hx hb d_Mo_worthOf_3 rfl hl (by decide) rfl (fun ls hl => ?_)
  exact lp (m0 + 1) 0 (by omega) (by omega) ls (lv_sub hl [0, 1, 2, 3] rfl)
theorem x_Mo_worthOf {σ : oS} {x : Int32} {m0 : Nat} (hm0 : x = nI m0) (hm09 : m0 < 6) (F : CallFix p m c cc nL s args (cw :: tt) own) (hG : Cond.methodLink own index y_Mo_worthOf ∈ tt) (hR : 0 + 1 ≤ R.frames ∧ 8 + (4 + 11) + 0 ≤ R.locals) (hK : va_K D vwCl (mt cI cZ) s) (hP : va_P D vwCl (mw cI cZ ad σ) H) (hsz : ls.size = nL) (hW : (rest.map fun v => v.category).sum ≤ 8) (hcs : cells ≤ R.cells ∧ slots ≤ R.slots) (hdg : decode cc pc = .ok (.invokevirtual index, 3)) (kk : W p l e R s m args below meth c H locs cells slots Q (F0 m (pc + 3) ls (.int (mo_w σ m0) :: rest))) : W p l e R s m args below meth c H locs cells slots Q (F0 m pc ls (.int x :: .ref (ad 0) :: rest)) :=
  ok_VR (As := [.int x]) F (c_Mo_worthOf σ hm0 hm09) 1 (tt_V hG i_Mo_worthOf l_Mo_worthOf in9_Mo k_Mo_worthOf) rfl ⟨rfl, rfl⟩ (by decide +kernel) hR hK hP (0) 6 rfl rfl mw_0 rfl hsz rfl hW hcs hdg kk
end
end
section
-- the reference's search
def mo_m (σ : oS) (m : Nat) : Nat → Int32
  | 0 => mo_w σ m
  | d + 1 => if σ 10 0 (m + d) ≤ 0 then mo_m σ m d else mo_m σ m d + σ 10 0 (m + d) * σ 11 0 (m + d)
def mo_l (σ : oS) (r n m k : Nat) : Int32 := mo_h σ r k (mo_s2 σ r k m (mo_s1 σ r k 11 m) (n - m))
def mo_all (σ : oS) (r n m : Nat) : Nat → Bool
  | 0 => true
  | k + 1 => mo_all σ r n m k && (mo_l σ r n m k == 1)
theorem mo_all_mono {σ : oS} {r n m k q : Nat} (h : k ≤ q) (hk : mo_all σ r n m k = false) : mo_all σ r n m q = false := by
  induction q with
  | zero => rw [show k = 0 by omega] at hk; exact hk
  | succ q ih =>
    by_cases e : k = q + 1
    · rw [← e]; exact hk
    · rw [mo_all, ih (by omega)]; rfl
theorem mo_h_1 {σ : oS} {r k : Nat} {s : Int32} (h : ¬ mo_h σ r k s = 0) : mo_h σ r k s = 1 := by
  unfold mo_h at h ⊢
  split <;> split <;> simp_all
def mo_c (σ : oS) (r u n m : Nat) : Int32 := if ¬ σ 7 0 0 = 0 ∧ mo_m σ m (n - m) ≤ σ 9 0 0 then 1 else if mo_all σ r n m (r + u) = true then 0 else 1
theorem mo_c_b {σ : oS} {r u n m : Nat} : narrow .boolean (.int (mo_c σ r u n m)) = .int (mo_c σ r u n m) := by
  unfold mo_c
  split
  · rfl
  · split <;> rfl
def mo_K (σ : oS) (n : Nat) : oS := uA (u3 (u3 σ 7 0 0 1) 9 0 0 (mo_w σ n)) 21 0 (fun j => if j < n then σ 20 0 j else σ 21 0 j)
def mo_q (σ : oS) (n d : Nat) : oS := uA (u3 (u3 σ 7 0 0 1) 9 0 0 (mo_w σ n)) 21 0 (fun j => if j < d then σ 20 0 j else σ 21 0 j)
theorem mo_q_c {σ : oS} {n d c : Nat} (h1 : c ≠ 7) (h2 : c ≠ 9) (h3 : c ≠ 21) : mo_q σ n d c = σ c := by
  funext i9
  unfold mo_q
  rw [uA_n (fun q => h3 q.1), u3_c h2, u3_c h1]
theorem mo_q_s {σ : oS} {n d : Nat} : u3 (mo_q σ n d) 21 0 d (mo_q σ n d 20 0 d) = mo_q σ n (d + 1) := by
  rw [mo_q_c (by decide) (by decide) (by decide)]
  unfold u3
  conv => lhs; unfold mo_q
  rw [uA_uA]
  conv => rhs; unfold mo_q
  congr 1
  funext j
  unfold upd
  rw [uA_s]
  by_cases h : j = d
  · subst h
    rw [if_pos rfl, if_pos (by omega)]
  · rw [if_neg h]
    by_cases h2 : j < d
    · rw [if_pos h2, if_pos (by omega)]
    · rw [if_neg h2, if_neg (by omega)]
theorem mo_q_0 {σ : oS} {n : Nat} : u3 (u3 σ 7 0 0 1) 9 0 0 (mo_w σ n) = mo_q σ n 0 := by
  unfold mo_q
  funext c9 i9
  by_cases h : c9 = 21 ∧ i9 = 0
  · rw [h.1, h.2, uA_s]
    funext j
    rw [if_neg (by omega), u3_c (by decide), u3_c (by decide)]
  · rw [uA_n h]
theorem mo_w_7 {σ : oS} {v : Int32} {m : Nat} : mo_w (u3 σ 7 0 0 v) m = mo_w σ m := by
  induction m with
  | zero => rfl
  | succ m ih => rw [mo_w, mo_w, ih, u3_c (by decide), u3_c (by decide)]
theorem mo_cnt {σ : oS} {r u : Nat} (h_r : σ 2 0 0 = nI r) (h_u : σ 3 0 0 = nI u) : σ 2 0 0 + σ 3 0 0 = nI (r + u) := by rw [h_r, h_u, nI_add]
section
variable {l : Launch} {D : va_G} {cI cZ : ClassId} {ad : Nat → Nat}
variable {p : Program} {e : Env} {R : Room} {s : State} {m : MethodId} {args : Array Value} {below : List Frame} {meth : Method} {c : Code} {H : Heap} {locs : List Loc} {cells slots : Nat} {Q : State → Prop} {cc : ByteArray} {pc nL index : Nat} {ls : Array Slot} {rest : List Value} {A : Nat → Prop} {H0 : Heap} {cw : Cond} {own : String}
set_option maxHeartbeats 4000000 in
set_option maxRecDepth 100000 in
theorem c_Mo_isCut (σ : oS) {r : Nat} {u : Nat} (h_r : σ 2 0 0 = nI r) (h_u : σ 3 0 0 = nI u) (hr4 : r ≤ 4) (hu4 : u ≤ 4) {n : Nat} (hn : σ 1 0 0 = nI n) (hn9 : n ≤ 5) (hok : mo_ok σ u) {x : Int32} {m0 : Nat} (hm0 : x = nI m0) (hm09 : m0 < 6) (hmn : m0 ≤ n) : ok_MR l y_Mo_isCut (Cond.code y_Mo_isCut b_Mo_isCut 4 (some .boolean) :: tt) { frames := 2, cells := 0, slots := 0, locals := 49 } D vwCl (mt cI cZ) (mw cI cZ ad σ) [.ref (ad 0), .int x] (some (.int (mo_c σ r u n m0))) := by
  refine ok_startR (cc := b_Mo_isCut) (own := RMo) (maxL := 4) (ret := (some .boolean)) (by decide +kernel) rfl rfl (Nat.le_of_ble_eq_true rfl) ?_
  intro p e s m below meth c F hr hlk hP hK ls hl
  have hl : lv_has ls 4 [(0, .ref (ad 0)), (1, .int x)] := hl
  have hx := F.1
  have hb := F.2.1
  have lr : ¬ (¬ σ 7 0 0 = 0 ∧ mo_m σ m0 (n - m0) ≤ σ 9 0 0) → ∀ ls : Array Slot, lv_has ls 4 [(3, .int (nI 0)), (2, .int (mo_m σ m0 (n - m0))), (0, .ref (ad 0)), (1, .int x)] → W p l e { frames := 2, cells := 0, slots := 0, locals := 49 } s m ([.ref (ad 0), .int x] : List Value).toArray below meth c s.heap [] 0 0 (MQ below (ok_R (some (.int (mo_c σ r u n m0)))) ([.ref (ad 0), .int x] : List Value).toArray s 0 0 (fun _ => False)) (F0 m 66 ls []) := by
    intro hno
    have lp : ∀ (f k : Nat), k ≤ (r + u) → (r + u) - k < f → mo_all σ r n m0 k = true → ∀ ls : Array Slot, lv_has ls 4 [(3, .int (nI k)), (2, .int (mo_m σ m0 (n - m0))), (0, .ref (ad 0)), (1, .int x)] → W p l e { frames := 2, cells := 0, slots := 0, locals := 49 } s m ([.ref (ad 0), .int x] : List Value).toArray below meth c s.heap [] 0 0 (MQ below (ok_R (some (.int (mo_c σ r u n m0)))) ([.ref (ad 0), .int x] : List Value).toArray s 0 0 (fun _ => False)) (F0 m 66 ls []) := by
      intro f
      induction f with
      | zero => intro k h1 h2; omega
      | succ f ih =>
        intro k h1 h2 hin ls hl
        refine lv_iload_n hx hb d_Mo_isCut_66 rfl (lv_at hl 0 rfl) ?_
        refine lv_aload_n hx hb d_Mo_isCut_67 rfl (lv_at hl 2 rfl) ?_
        refine gf_Mo_rows F hK hP d_Mo_isCut_68 ?_
        refine lv_aload_n hx hb d_Mo_isCut_71 rfl (lv_at hl 2 rfl) ?_
        refine gf_Mo_cuts F hK hP d_Mo_isCut_72 ?_
        refine lv_iadd hx hb d_Mo_isCut_75 ?_
        refine lv_icmp_ge (tgt := 100) hx hb d_Mo_isCut_76 (by decide) (fun c1 => ?_) (fun c1 => ?_)
        · have hkn : (r + u) = k := by
            rw [mo_cnt h_r h_u, nI_leI (by omega) (by omega)] at c1; omega
          subst hkn
          refine lv_iconst (v := 0) hx hb d_Mo_isCut_100 (by decide) ?_
          exact ok_zretR F hr hlk (rfl) (by rw [mo_c, if_neg hno, if_pos hin]) d_Mo_isCut_101
        · have hkn : k < (r + u) := by
            rw [mo_cnt h_r h_u, nI_leI (by omega) (by omega)] at c1; omega
          refine lv_aload_n hx hb d_Mo_isCut_79 rfl (lv_at hl 2 rfl) ?_
          refine lv_iload_n hx hb d_Mo_isCut_80 rfl (lv_at hl 0 rfl) ?_
          refine lv_aload_n hx hb d_Mo_isCut_81 rfl (lv_at hl 2 rfl) ?_
          refine gf_Mo_number F hK hP d_Mo_isCut_82 ?_
          refine lv_iload_n hx hb d_Mo_isCut_85 rfl (lv_at hl 3 rfl) ?_
          refine x_Mo_canHold (r := r) (u := u) h_r h_u hr4 hu4 (n := n) hn hn9 hok (k := k) rfl (by omega) (by omega) (w := 11) (by decide) (m0 := m0) hm0 (by omega) (by omega) F (tt4 39 rfl rfl) ⟨Nat.le_of_ble_eq_true rfl, Nat.le_of_ble_eq_true rfl⟩ hK hP hl.1 (Nat.le_of_ble_eq_true rfl) ⟨Nat.zero_le _, Nat.zero_le _⟩ d_Mo_isCut_86 ?_
          refine lv_if_ne (tgt := 94) hx hb d_Mo_isCut_89 (by decide) (fun c2 => ?_) (fun c2 => ?_)
          · refine lv_iinc (v := nI (k + 1)) (lv' := [(3, .int (nI (k + 1))), (2, .int (mo_m σ m0 (n - m0))), (0, .ref (ad 0)), (1, .int x)]) hx hb d_Mo_isCut_94 hl (k := 0) rfl (nI_inc _) (by decide) rfl (fun ls hl => ?_)
            refine lv_goto (tgt := 66) hx hb d_Mo_isCut_97 (by decide) ?_
            exact ih (k + 1) (by omega) (by omega) (by rw [mo_all, hin, mo_l, mo_h_1 c2]; rfl) ls (lv_sub hl [0, 1, 2, 3] rfl)
          · refine lv_iconst (v := 1) hx hb d_Mo_isCut_92 (by decide) ?_
            exact ok_zretR F hr hlk (rfl) (by rw [mo_c, if_neg hno, if_neg (by rw [mo_all_mono (k := k + 1) (by omega) (by rw [mo_all, hin]; simp [mo_l, c2])]; decide)]) d_Mo_isCut_93
    exact lp (r + u + 1) 0 (by omega) (by omega) rfl
  have lq : ∀ (f d : Nat), m0 + d ≤ n → n - (m0 + d) < f → ∀ ls : Array Slot, lv_has ls 4 [(3, .int (nI (m0 + d))), (2, .int (mo_m σ m0 d)), (0, .ref (ad 0)), (1, .int x)] → W p l e { frames := 2, cells := 0, slots := 0, locals := 49 } s m ([.ref (ad 0), .int x] : List Value).toArray below meth c s.heap [] 0 0 (MQ below (ok_R (some (.int (mo_c σ r u n m0)))) ([.ref (ad 0), .int x] : List Value).toArray s 0 0 (fun _ => False)) (F0 m 8 ls []) := by
    intro f
    induction f with
    | zero => intro d h1 h2; omega
    | succ f ih =>
      intro d h1 h2 ls hl
      refine lv_iload_n hx hb d_Mo_isCut_8 rfl (lv_at hl 0 rfl) ?_
      refine lv_aload_n hx hb d_Mo_isCut_9 rfl (lv_at hl 2 rfl) ?_
      refine gf_Mo_columns F hK hP d_Mo_isCut_10 ?_
      refine lv_icmp_ge (tgt := 47) hx hb d_Mo_isCut_13 (by decide) (fun c3 => ?_) (fun c3 => ?_)
      · have hdn : n = m0 + d := by
          rw [hn, nI_leI (by omega) (by omega)] at c3; omega
        have hM2 : mo_m σ m0 d = mo_m σ m0 (n - m0) := by rw [show n - m0 = d by omega]
        refine lv_aload_n hx hb d_Mo_isCut_47 rfl (lv_at hl 2 rfl) ?_
        refine gf_Mo_found F hK hP d_Mo_isCut_48 ?_
        refine lv_if_eq (tgt := 64) hx hb d_Mo_isCut_51 (by decide) (fun c4 => ?_) (fun c4 => ?_)
        · refine lv_iconst (v := 0) hx hb d_Mo_isCut_64 (by decide) ?_
          refine lv_istore_n (lv' := [(3, .int 0), (2, .int (mo_m σ m0 d)), (0, .ref (ad 0)), (1, .int x)]) hx hb d_Mo_isCut_65 rfl hl (by decide) rfl (fun ls hl => ?_)
          exact lr (fun q => q.1 c4) ls (by rw [← hM2]; exact (lv_sub hl [0, 1, 2, 3] rfl))
        · refine lv_iload_n hx hb d_Mo_isCut_54 rfl (lv_at hl 1 rfl) ?_
          refine lv_aload_n hx hb d_Mo_isCut_55 rfl (lv_at hl 2 rfl) ?_
          refine gf_Mo_bestWorth F hK hP d_Mo_isCut_56 ?_
          refine lv_icmp_gt (tgt := 64) hx hb d_Mo_isCut_59 (by decide) (fun c5 => ?_) (fun c5 => ?_)
          · refine lv_iconst (v := 0) hx hb d_Mo_isCut_64 (by decide) ?_
            refine lv_istore_n (lv' := [(3, .int 0), (2, .int (mo_m σ m0 d)), (0, .ref (ad 0)), (1, .int x)]) hx hb d_Mo_isCut_65 rfl hl (by decide) rfl (fun ls hl => ?_)
            exact lr (fun q => absurd q.2 (by rw [← hM2]; exact Int32.not_le.mpr c5)) ls (by rw [← hM2]; exact (lv_sub hl [0, 1, 2, 3] rfl))
          · refine lv_iconst (v := 1) hx hb d_Mo_isCut_62 (by decide) ?_
            exact ok_zretR F hr hlk (rfl) (by rw [mo_c, if_pos ⟨c4, by rw [← hM2]; exact Int32.not_lt.mp c5⟩]) d_Mo_isCut_63
      · have hdn : m0 + d < n := by
          rw [hn, nI_leI (by omega) (by omega)] at c3; omega
        refine lv_aload_n hx hb d_Mo_isCut_16 rfl (lv_at hl 2 rfl) ?_
        refine gf_Mo_worth F hK hP d_Mo_isCut_17 ?_
        refine lv_iload_n hx hb d_Mo_isCut_20 rfl (lv_at hl 0 rfl) ?_
        refine im_10 (j := (m0 + d)) F hK hP rfl (by omega) d_Mo_isCut_21 ?_
        refine lv_if_le (tgt := 41) hx hb d_Mo_isCut_22 (by decide) (fun c6 => ?_) (fun c6 => ?_)
        · refine lv_iinc (v := nI (m0 + d + 1)) (lv' := [(3, .int (nI (m0 + d + 1))), (2, .int (mo_m σ m0 d)), (0, .ref (ad 0)), (1, .int x)]) hx hb d_Mo_isCut_41 hl (k := 0) rfl (nI_inc _) (by decide) rfl (fun ls hl => ?_)
          refine lv_goto (tgt := 8) hx hb d_Mo_isCut_44 (by decide) ?_
          have e9 : mo_m σ m0 (d + 1) = mo_m σ m0 d := by
            rw [mo_m]; first | rw [if_pos c6] | rw [if_neg c6]
          exact ih (d + 1) (by omega) (by omega) ls (by rw [e9]; exact (lv_sub hl [0, 1, 2, 3] rfl))
        · refine lv_iload_n hx hb d_Mo_isCut_25 rfl (lv_at hl 1 rfl) ?_
          refine lv_aload_n hx hb d_Mo_isCut_26 rfl (lv_at hl 2 rfl) ?_
          refine gf_Mo_worth F hK hP d_Mo_isCut_27 ?_
          refine lv_iload_n hx hb d_Mo_isCut_30 rfl (lv_at hl 0 rfl) ?_
          refine im_10 (j := (m0 + d)) F hK hP rfl (by omega) d_Mo_isCut_31 ?_
          refine lv_aload_n hx hb d_Mo_isCut_32 rfl (lv_at hl 2 rfl) ?_
          refine gf_Mo_top F hK hP d_Mo_isCut_33 ?_
          refine lv_iload_n hx hb d_Mo_isCut_36 rfl (lv_at hl 0 rfl) ?_
          refine im_11 (j := (m0 + d)) F hK hP rfl (by omega) d_Mo_isCut_37 ?_
          refine lv_imul hx hb d_Mo_isCut_38 ?_
          refine lv_iadd hx hb d_Mo_isCut_39 ?_
          refine lv_istore_n (lv' := [(2, .int ((mo_m σ m0 d) + ((σ 10 0 (m0 + d)) * (σ 11 0 (m0 + d))))), (3, .int (nI (m0 + d))), (0, .ref (ad 0)), (1, .int x)]) hx hb d_Mo_isCut_40 rfl hl (by decide) rfl (fun ls hl => ?_)
          refine lv_iinc (v := nI (m0 + d + 1)) (lv' := [(3, .int (nI (m0 + d + 1))), (2, .int ((mo_m σ m0 d) + ((σ 10 0 (m0 + d)) * (σ 11 0 (m0 + d))))), (0, .ref (ad 0)), (1, .int x)]) hx hb d_Mo_isCut_41 hl (k := 1) rfl (nI_inc _) (by decide) rfl (fun ls hl => ?_)
          refine lv_goto (tgt := 8) hx hb d_Mo_isCut_44 (by decide) ?_
          have e9 : mo_m σ m0 (d + 1) = (mo_m σ m0 d) + ((σ 10 0 (m0 + d)) * (σ 11 0 (m0 + d))) := by
            rw [mo_m]; first | rw [if_pos c6] | rw [if_neg c6]
          exact ih (d + 1) (by omega) (by omega) ls (by rw [e9]; exact (lv_sub hl [0, 1, 2, 3] rfl))
  refine lv_aload_n hx hb d_Mo_isCut_0 rfl (lv_at hl 0 rfl) ?_
  refine lv_iload_n hx hb d_Mo_isCut_1 rfl (lv_at hl 1 rfl) ?_
  refine x_Mo_worthOf (m0 := m0) hm0 (by omega) F (tt4 35 rfl rfl) ⟨Nat.le_of_ble_eq_true rfl, Nat.le_of_ble_eq_true rfl⟩ hK hP hl.1 (Nat.le_of_ble_eq_true rfl) ⟨Nat.zero_le _, Nat.zero_le _⟩ d_Mo_isCut_2 ?_
  refine lv_istore_n (lv' := [(2, .int (mo_w σ m0)), (0, .ref (ad 0)), (1, .int x)]) hx hb d_Mo_isCut_5 rfl hl (by decide) rfl (fun ls hl => ?_)
  refine lv_iload_n hx hb d_Mo_isCut_6 rfl (lv_at hl 2 rfl) ?_
  refine lv_istore_n (lv' := [(3, .int x), (2, .int (mo_w σ m0)), (0, .ref (ad 0)), (1, .int x)]) hx hb d_Mo_isCut_7 rfl hl (by decide) rfl (fun ls hl => ?_)
  have hl : lv_has ls 4 [(3, .int (nI (m0 + 0))), (2, .int (mo_m σ m0 0)), (0, .ref (ad 0)), (1, .int x)] := by rw [Nat.add_zero, ← hm0]; exact (lv_sub hl [0, 1, 2, 3] rfl)
  exact lq (n + 1) 0 (by omega) (by omega) ls hl
theorem x_Mo_isCut {σ : oS} {r : Nat} {u : Nat} (h_r : σ 2 0 0 = nI r) (h_u : σ 3 0 0 = nI u) (hr4 : r ≤ 4) (hu4 : u ≤ 4) {n : Nat} (hn : σ 1 0 0 = nI n) (hn9 : n ≤ 5) (hok : mo_ok σ u) {x : Int32} {m0 : Nat} (hm0 : x = nI m0) (hm09 : m0 < 6) (hmn : m0 ≤ n) (F : CallFix p m c cc nL s args (cw :: tt) own) (hG : Cond.methodLink own index y_Mo_isCut ∈ tt) (hR : 2 + 1 ≤ R.frames ∧ 8 + (4 + 11) + 49 ≤ R.locals) (hK : va_K D vwCl (mt cI cZ) s) (hP : va_P D vwCl (mw cI cZ ad σ) H) (hsz : ls.size = nL) (hW : (rest.map fun v => v.category).sum ≤ 8) (hcs : cells ≤ R.cells ∧ slots ≤ R.slots) (hdg : decode cc pc = .ok (.invokevirtual index, 3)) (kk : W p l e R s m args below meth c H locs cells slots Q (F0 m (pc + 3) ls (.int (mo_c σ r u n m0) :: rest))) : W p l e R s m args below meth c H locs cells slots Q (F0 m pc ls (.int x :: .ref (ad 0) :: rest)) :=
  ok_VR (As := [.int x]) F (c_Mo_isCut σ h_r h_u hr4 hu4 hn hn9 hok hm0 hm09 hmn) 1 (tt_V hG i_Mo_isCut l_Mo_isCut in9_Mo k_Mo_isCut) rfl ⟨rfl, rfl⟩ (by decide +kernel) hR hK hP (0) 6 rfl rfl mw_0 rfl hsz rfl hW hcs hdg kk
set_option maxHeartbeats 4000000 in
set_option maxRecDepth 100000 in
theorem c_Mo_keeps (σ : oS) {n : Nat} (hn : σ 1 0 0 = nI n) (hn9 : n ≤ 5) : ok_MM l y_Mo_keeps (Cond.code y_Mo_keeps b_Mo_keeps 2 none :: tt) { frames := 1, cells := 0, slots := 0, locals := 23 } D vwCl (mt cI cZ) (mw cI cZ ad σ) (mw cI cZ ad (mo_q σ n n)) [.ref (ad 0)] none := by
  refine ok_startM (cc := b_Mo_keeps) (own := RMo) (maxL := 2) (ret := none) (by decide +kernel) rfl rfl (Nat.le_of_ble_eq_true rfl) ?_
  intro p e s m below meth c A F hr hlk hA hP hK hD hS ls hl
  have hl : lv_has ls 2 [(0, .ref (ad 0))] := hl
  have hx := F.1
  have hb := F.2.1
  have lp : ∀ (f k : Nat), k ≤ n → n - k < f → ∀ (H : Heap) (locs : List Loc), va_P D vwCl (mw cI cZ ad (mo_q σ n k)) H → va_D A (mw cI cZ ad (mo_q σ n k)) → va_S A s.heap H locs → ∀ ls : Array Slot, lv_has ls 2 [(1, .int (nI k)), (0, .ref (ad 0))] → W p l e { frames := 1, cells := 0, slots := 0, locals := 23 } s m ([.ref (ad 0)] : List Value).toArray below meth c H locs 0 0 (MQ below (ok_qA D vwCl A (mw cI cZ ad (mo_q σ n n)) none) ([.ref (ad 0)] : List Value).toArray s 0 0 A) (F0 m 19 ls []) := by
    intro f
    induction f with
    | zero => intro k h1 h2; omega
    | succ f ih =>
      intro k h1 h2 H locs hP hD hS ls hl
      refine lv_iload_n hx hb d_Mo_keeps_19 rfl (lv_at hl 0 rfl) ?_
      refine lv_aload_n hx hb d_Mo_keeps_20 rfl (lv_at hl 1 rfl) ?_
      refine gf_Mo_columns F hK hP d_Mo_keeps_21 ?_
      refine lv_icmp_ge (tgt := 45) hx hb d_Mo_keeps_24 (by decide) (fun c1 => ?_) (fun c1 => ?_)
      · have hkn : n = k := by
          rw [mo_q_c (by decide) (by decide) (by decide), hn, nI_leI (by omega) (by omega)] at c1; omega
        subst hkn
        exact ok_vretM F hr hlk hP hD hS d_Mo_keeps_45
      · have hkn : k < n := by
          rw [mo_q_c (by decide) (by decide) (by decide), hn, nI_leI (by omega) (by omega)] at c1; omega
        refine lv_aload_n hx hb d_Mo_keeps_27 rfl (lv_at hl 1 rfl) ?_
        refine gf_Mo_best F hK hP d_Mo_keeps_28 ?_
        refine lv_iload_n hx hb d_Mo_keeps_31 rfl (lv_at hl 0 rfl) ?_
        refine lv_aload_n hx hb d_Mo_keeps_32 rfl (lv_at hl 1 rfl) ?_
        refine gf_Mo_number F hK hP d_Mo_keeps_33 ?_
        refine lv_iload_n hx hb d_Mo_keeps_36 rfl (lv_at hl 0 rfl) ?_
        refine im_20 (j := k) F hK hP rfl (by omega) d_Mo_keeps_37 ?_
        refine sm_21 (j := k) F hK hP hD hS rfl (by omega) d_Mo_keeps_38 (fun H locs hP hD hS => ?_)
        have ew : u3 (mo_q σ n k) 21 0 k ((mo_q σ n k) 20 0 k) = mo_q σ n (k + 1) := by exact mo_q_s
        rw [ew] at hP hD
        clear ew
        refine lv_iinc (v := nI (k + 1)) (lv' := [(1, .int (nI (k + 1))), (0, .ref (ad 0))]) hx hb d_Mo_keeps_39 hl (k := 0) rfl (nI_inc _) (by decide) rfl (fun ls hl => ?_)
        refine lv_goto (tgt := 19) hx hb d_Mo_keeps_42 (by decide) ?_
        exact ih (k + 1) (by omega) (by omega) H locs hP hD hS ls (lv_sub hl [0, 1] rfl)
  refine lv_aload_n hx hb d_Mo_keeps_0 rfl (lv_at hl 0 rfl) ?_
  refine lv_iconst (v := 1) hx hb d_Mo_keeps_1 (by decide) ?_
  refine pf_Mo_found F hK hP hD hS (by rfl) (by rfl) d_Mo_keeps_2 (fun H locs hP hD hS => ?_)
  refine lv_aload_n hx hb d_Mo_keeps_5 rfl (lv_at hl 0 rfl) ?_
  refine lv_aload_n hx hb d_Mo_keeps_6 rfl (lv_at hl 0 rfl) ?_
  refine lv_aload_n hx hb d_Mo_keeps_7 rfl (lv_at hl 0 rfl) ?_
  refine gf_Mo_columns F hK hP d_Mo_keeps_8 ?_
  refine x_Mo_worthOf (m0 := n) (by rw [u3_c (by decide)]; exact hn) (by omega) F (tt4 35 rfl rfl) ⟨Nat.le_of_ble_eq_true rfl, Nat.le_of_ble_eq_true rfl⟩ hK hP hl.1 (Nat.le_of_ble_eq_true rfl) ⟨Nat.zero_le _, Nat.zero_le _⟩ d_Mo_keeps_11 ?_
  refine pf_Mo_bestWorth F hK hP hD hS d_Mo_keeps_14 (fun H locs hP hD hS => ?_)
  have ew : u3 (u3 σ 7 0 0 1) 9 0 0 (mo_w (u3 σ 7 0 0 1) n) = mo_q σ n 0 := by rw [mo_w_7]; exact mo_q_0
  rw [ew] at hP hD
  clear ew
  refine lv_iconst (v := 0) hx hb d_Mo_keeps_17 (by decide) ?_
  refine lv_istore_n (lv' := [(1, .int 0), (0, .ref (ad 0))]) hx hb d_Mo_keeps_18 rfl hl (by decide) rfl (fun ls hl => ?_)
  exact lp (n + 1) 0 (by omega) (by omega) _ _ hP hD hS ls (lv_sub hl [0, 1] rfl)
theorem x_Mo_keeps {σ : oS} {n : Nat} (hn : σ 1 0 0 = nI n) (hn9 : n ≤ 5) (F : CallFix p m c cc nL s args (cw :: tt) own) (hG : Cond.methodLink own index y_Mo_keeps ∈ tt) (hR : 1 + 1 ≤ R.frames ∧ 8 + (2 + 11) + 23 ≤ R.locals) (hK : va_K D vwCl (mt cI cZ) s) (hP : va_P D vwCl (mw cI cZ ad σ) H) (hD : va_D A (mw cI cZ ad σ)) (hS : va_S A H0 H locs) (hA : ∀ q, H0.size ≤ q → A q) (hsz : ls.size = nL) (hW : (rest.map fun v => v.category).sum ≤ 8) (hcs : cells ≤ R.cells ∧ slots ≤ R.slots) (hdg : decode cc pc = .ok (.invokevirtual index, 3)) (kk : ∀ (H1 : Heap) (locs1 : List Loc), va_P D vwCl (mw cI cZ ad (mo_q σ n n)) H1 → va_D A (mw cI cZ ad (mo_q σ n n)) → va_S A H0 H1 locs1 → W p l e R s m args below meth c H1 locs1 cells slots Q (F0 m (pc + 3) ls (rest))) : W p l e R s m args below meth c H locs cells slots Q (F0 m pc ls (.ref (ad 0) :: rest)) :=
  ok_VM (As := []) F (c_Mo_keeps σ hn hn9) 0 (tt_V hG i_Mo_keeps l_Mo_keeps in9_Mo k_Mo_keeps) rfl ⟨rfl, rfl⟩ (by decide +kernel) hR hK hP hD hS hA (0) 6 rfl rfl mw_0 rfl hsz rfl hW hcs hdg kk
end
end
section
-- run of the reference: K says what is done at a number that is to be given
def mo_E (τ : oS) : oS × Int32 := (u3 (u3 τ 5 0 0 (-1)) 6 0 0 1, if τ 7 0 0 = 0 then 1 else 0)
def mo_N (K : Nat → oS → oS × Int32) : Nat → oS → oS × Int32
  | 0, τ => if τ 19 0 0 < 0 then mo_E τ else K 0 τ
  | q + 1, τ => if τ 19 0 (q + 1) < 0 then mo_N K q (u3 (u3 τ 5 0 0 (nI q)) 19 0 q (τ 19 0 q - 1)) else K (q + 1) τ
def mo_1 (τ : oS) (q : Nat) : oS := u3 (u3 τ 8 0 0 (τ 8 0 0 + 1)) 20 0 q (τ 19 0 q)
def mo_T (n r u : Nat) (G : Nat → oS → oS × Int32) (q : Nat) (τ : oS) : oS × Int32 :=
  if mo_c (mo_1 τ q) r u n (q + 1) = 0 then (if q + 1 = n then G q (u3 (mo_q (mo_1 τ q) n n) 19 0 q (τ 19 0 q - 1)) else G (q + 1) (u3 (u3 (mo_1 τ q) 5 0 0 (nI (q + 1))) 19 0 (q + 1) (τ 11 0 (q + 1))))
  else G q (u3 (mo_1 τ q) 19 0 q (τ 19 0 q - 1))
def mo_R (n r u : Nat) : Nat → Nat → oS → oS × Int32
  | 0 => mo_N (fun _ τ => (τ, 2))
  | f + 1 => mo_N (mo_T n r u (mo_R n r u f))
theorem mo_ok_of {σ τ : oS} {u : Nat} (h1 : τ 15 = σ 15) (h2 : τ 16 = σ 16) (h : mo_ok σ u) : mo_ok τ u := by
  intro k hk
  obtain ⟨a, b, c, d⟩ := h k hk
  unfold mo_A mo_B at *
  rw [h1, h2]
  exact ⟨a, b, c, d⟩
theorem mo_1_c {τ : oS} {q c : Nat} (h1 : c ≠ 8) (h2 : c ≠ 20) : mo_1 τ q c = τ c := by
  unfold mo_1
  rw [u3_c h2, u3_c h1]
def mo_J (τ : oS) (n r u q : Nat) : Prop := τ 1 0 0 = nI n ∧ τ 2 0 0 = nI r ∧ τ 3 0 0 = nI u ∧ mo_ok τ u ∧ τ 6 0 0 = 0 ∧ τ 5 0 0 = nI q
theorem mo_J_of {σ τ : oS} {n r u q q' : Nat} (h : mo_J σ n r u q) (h1 : ∀ c, c = 1 ∨ c = 2 ∨ c = 3 ∨ c = 6 ∨ c = 15 ∨ c = 16 → τ c = σ c) (h5 : τ 5 0 0 = nI q') : mo_J τ n r u q' := by
  obtain ⟨a, b, c, d, e, -⟩ := h
  exact ⟨by rw [h1 1 (by decide)]; exact a, by rw [h1 2 (by decide)]; exact b, by rw [h1 3 (by decide)]; exact c, mo_ok_of (h1 15 (by decide)) (h1 16 (by decide)) d, by rw [h1 6 (by decide)]; exact e, h5⟩
section
variable {l : Launch} {D : va_G} {cI cZ : ClassId} {ad : Nat → Nat}
variable {p : Program} {e : Env} {R : Room} {s : State} {m : MethodId} {args : Array Value} {below : List Frame} {meth : Method} {c : Code} {H : Heap} {locs : List Loc} {cells slots : Nat} {Q : State → Prop} {cc : ByteArray} {pc nL index : Nat} {ls : Array Slot} {rest : List Value} {A : Nat → Prop} {H0 : Heap} {cw : Cond} {own : String}
set_option maxHeartbeats 4000000 in
set_option maxRecDepth 100000 in
theorem c_Mo_run_e (σ : oS) {x : Int32} {f : Nat} (hf : x = nI f) (hf9 : f < 100001) (h1 : mo_in x 0 100000 = 1) (he : ¬ σ 6 0 0 = 0) : ok_MM l y_Mo_run (Cond.code y_Mo_run b_Mo_run 3 (some .int) :: tt) { frames := 1, cells := 0, slots := 0, locals := 22 } D vwCl (mt cI cZ) (mw cI cZ ad σ) (mw cI cZ ad (u3 σ 0 0 0 0)) [.ref (ad 0), .int x] (some (.int (if σ 7 0 0 = 0 then 1 else 0))) := by
  refine ok_startM (cc := b_Mo_run) (own := RMo) (maxL := 3) (ret := (some .int)) (by decide +kernel) rfl rfl (Nat.le_of_ble_eq_true rfl) ?_
  intro p e s m below meth c A F hr hlk hA hP hK hD hS ls hl
  have hl : lv_has ls 3 [(0, .ref (ad 0)), (1, .int x)] := hl
  have hx := F.1
  have hb := F.2.1
  refine lv_aload_n hx hb d_Mo_run_0 rfl (lv_at hl 0 rfl) ?_
  refine lv_iload_n hx hb d_Mo_run_1 rfl (lv_at hl 1 rfl) ?_
  refine lv_iconst (v := 0) hx hb d_Mo_run_2 (by decide) ?_
  refine lv_ldc (v := 100000) hx hb F.2.2.2.1 (F.2.2.2.2 (.constant RMo 121 (100000)) (List.mem_cons_of_mem _ (tt4 30 rfl rfl))) d_Mo_run_3 ?_
  refine x_Mo_in F (tt3 227 rfl rfl) ⟨Nat.le_of_ble_eq_true rfl, Nat.le_of_ble_eq_true rfl⟩ hK hP hl.1 (Nat.le_of_ble_eq_true rfl) ⟨Nat.zero_le _, Nat.zero_le _⟩ d_Mo_run_5 ?_
  refine lv_iconst (v := 1) hx hb d_Mo_run_8 (by decide) ?_
  refine x_Mo_goes F (tt3 230 rfl rfl) ⟨Nat.le_of_ble_eq_true rfl, Nat.le_of_ble_eq_true rfl⟩ hK hP hD hS hA hl.1 (Nat.le_of_ble_eq_true rfl) ⟨Nat.zero_le _, Nat.zero_le _⟩ d_Mo_run_9 (fun H locs hP hD hS => ?_)
  have ew : u3 σ 0 0 0 (mo_g (mo_in x 0 100000) 1) = u3 σ 0 0 0 0 := by rw [h1]; rfl
  rw [ew] at hP hD
  clear ew
  refine lv_if_ne (tgt := 17) hx hb d_Mo_run_12 (by decide) (fun c1 => ?_) (fun c1 => ?_)
  · refine lv_iload_n hx hb d_Mo_run_17 rfl (lv_at hl 1 rfl) ?_
    refine lv_istore_n (lv' := [(2, .int x), (0, .ref (ad 0)), (1, .int x)]) hx hb d_Mo_run_18 rfl hl (by decide) rfl (fun ls hl => ?_)
    refine lv_aload_n hx hb d_Mo_run_19 rfl (lv_at hl 1 rfl) ?_
    refine gf_Mo_ended F hK hP d_Mo_run_20 ?_
    refine lv_if_ne (tgt := 50) hx hb d_Mo_run_23 (by decide) (fun c2 => ?_) (fun c2 => ?_)
    · refine lv_aload_n hx hb d_Mo_run_50 rfl (lv_at hl 1 rfl) ?_
      refine gf_Mo_ended F hK hP d_Mo_run_51 ?_
      refine lv_if_ne (tgt := 240) hx hb d_Mo_run_54 (by decide) (fun c3 => ?_) (fun c3 => ?_)
      · refine lv_aload_n hx hb d_Mo_run_240 rfl (lv_at hl 1 rfl) ?_
        refine gf_Mo_found F hK hP d_Mo_run_241 ?_
        refine lv_if_eq (tgt := 251) hx hb d_Mo_run_244 (by decide) (fun c4 => ?_) (fun c4 => ?_)
        · refine lv_iconst (v := 1) hx hb d_Mo_run_251 (by decide) ?_
          exact ok_iretM F hr hlk hP hD hS (by rw [u3_c (by decide)] at c4; simp [c4]) d_Mo_run_252
        · refine lv_iconst (v := 0) hx hb d_Mo_run_247 (by decide) ?_
          refine lv_goto (tgt := 252) hx hb d_Mo_run_248 (by decide) ?_
          exact ok_iretM F hr hlk hP hD hS (by rw [u3_c (by decide)] at c4; simp [c4]) d_Mo_run_252
      · exact absurd (by rw [← c3, u3_c (by decide)]) he
    · exact absurd (by rw [← c2, u3_c (by decide)]) he
  · exact absurd c1 (by rw [h1]; decide)
theorem x_Mo_run_e {σ : oS} {x : Int32} {f : Nat} (hf : x = nI f) (hf9 : f < 100001) (h1 : mo_in x 0 100000 = 1) (he : ¬ σ 6 0 0 = 0) (F : CallFix p m c cc nL s args (cw :: tt) own) (hG : Cond.methodLink own index y_Mo_run ∈ tt) (hR : 1 + 1 ≤ R.frames ∧ 8 + (3 + 11) + 22 ≤ R.locals) (hK : va_K D vwCl (mt cI cZ) s) (hP : va_P D vwCl (mw cI cZ ad σ) H) (hD : va_D A (mw cI cZ ad σ)) (hS : va_S A H0 H locs) (hA : ∀ q, H0.size ≤ q → A q) (hsz : ls.size = nL) (hW : (rest.map fun v => v.category).sum ≤ 8) (hcs : cells ≤ R.cells ∧ slots ≤ R.slots) (hdg : decode cc pc = .ok (.invokevirtual index, 3)) (kk : ∀ (H1 : Heap) (locs1 : List Loc), va_P D vwCl (mw cI cZ ad (u3 σ 0 0 0 0)) H1 → va_D A (mw cI cZ ad (u3 σ 0 0 0 0)) → va_S A H0 H1 locs1 → W p l e R s m args below meth c H1 locs1 cells slots Q (F0 m (pc + 3) ls (.int (if σ 7 0 0 = 0 then 1 else 0) :: rest))) : W p l e R s m args below meth c H locs cells slots Q (F0 m pc ls (.int x :: .ref (ad 0) :: rest)) :=
  ok_VM (As := [.int x]) F (c_Mo_run_e σ hf hf9 h1 he) 1 (tt_V hG i_Mo_run l_Mo_run in9_Mo k_Mo_run) rfl ⟨rfl, rfl⟩ (by decide +kernel) hR hK hP hD hS hA (0) 6 rfl rfl mw_0 rfl hsz rfl hW hcs hdg kk
set_option maxHeartbeats 4000000 in
set_option maxRecDepth 100000 in
theorem c_Mo_run_0 (σ : oS) {r : Nat} {u : Nat} (h_r : σ 2 0 0 = nI r) (h_u : σ 3 0 0 = nI u) (hr4 : r ≤ 4) (hu4 : u ≤ 4) (hn : σ 1 0 0 = nI 0) (hok : mo_ok σ u) {x : Int32} {f : Nat} (hf : x = nI f) (hf9 : f < 100001) (h1 : mo_in x 0 100000 = 1) (he : σ 6 0 0 = 0) : ok_MM l y_Mo_run (Cond.code y_Mo_run b_Mo_run 3 (some .int) :: tt) { frames := 3, cells := 0, slots := 0, locals := 72 } D vwCl (mt cI cZ) (mw cI cZ ad σ) (mw cI cZ ad (u3 (if mo_c (u3 σ 0 0 0 0) r u 0 0 = 0 then mo_q (u3 σ 0 0 0 0) 0 0 else u3 σ 0 0 0 0) 6 0 0 1)) [.ref (ad 0), .int x] (some (.int (if (if mo_c (u3 σ 0 0 0 0) r u 0 0 = 0 then mo_q (u3 σ 0 0 0 0) 0 0 else u3 σ 0 0 0 0) 7 0 0 = 0 then 1 else 0))) := by
  refine ok_startM (cc := b_Mo_run) (own := RMo) (maxL := 3) (ret := (some .int)) (by decide +kernel) rfl rfl (Nat.le_of_ble_eq_true rfl) ?_
  intro p e s m below meth c A F hr hlk hA hP hK hD hS ls hl
  have hl : lv_has ls 3 [(0, .ref (ad 0)), (1, .int x)] := hl
  have hx := F.1
  have hb := F.2.1
  refine lv_aload_n hx hb d_Mo_run_0 rfl (lv_at hl 0 rfl) ?_
  refine lv_iload_n hx hb d_Mo_run_1 rfl (lv_at hl 1 rfl) ?_
  refine lv_iconst (v := 0) hx hb d_Mo_run_2 (by decide) ?_
  refine lv_ldc (v := 100000) hx hb F.2.2.2.1 (F.2.2.2.2 (.constant RMo 121 (100000)) (List.mem_cons_of_mem _ (tt4 30 rfl rfl))) d_Mo_run_3 ?_
  refine x_Mo_in F (tt3 227 rfl rfl) ⟨Nat.le_of_ble_eq_true rfl, Nat.le_of_ble_eq_true rfl⟩ hK hP hl.1 (Nat.le_of_ble_eq_true rfl) ⟨Nat.zero_le _, Nat.zero_le _⟩ d_Mo_run_5 ?_
  refine lv_iconst (v := 1) hx hb d_Mo_run_8 (by decide) ?_
  refine x_Mo_goes F (tt3 230 rfl rfl) ⟨Nat.le_of_ble_eq_true rfl, Nat.le_of_ble_eq_true rfl⟩ hK hP hD hS hA hl.1 (Nat.le_of_ble_eq_true rfl) ⟨Nat.zero_le _, Nat.zero_le _⟩ d_Mo_run_9 (fun H locs hP hD hS => ?_)
  have ew : u3 σ 0 0 0 (mo_g (mo_in x 0 100000) 1) = u3 σ 0 0 0 0 := by rw [h1]; rfl
  rw [ew] at hP hD
  clear ew
  refine lv_if_ne (tgt := 17) hx hb d_Mo_run_12 (by decide) (fun c1 => ?_) (fun c1 => ?_)
  · refine lv_iload_n hx hb d_Mo_run_17 rfl (lv_at hl 1 rfl) ?_
    refine lv_istore_n (lv' := [(2, .int x), (0, .ref (ad 0)), (1, .int x)]) hx hb d_Mo_run_18 rfl hl (by decide) rfl (fun ls hl => ?_)
    refine lv_aload_n hx hb d_Mo_run_19 rfl (lv_at hl 1 rfl) ?_
    refine gf_Mo_ended F hK hP d_Mo_run_20 ?_
    refine lv_if_ne (tgt := 50) hx hb d_Mo_run_23 (by decide) (fun c2 => ?_) (fun c2 => ?_)
    · exact absurd (by rw [u3_c (by decide)]; first | exact he | (rw [hn]; rfl)) c2
    · refine lv_aload_n hx hb d_Mo_run_26 rfl (lv_at hl 1 rfl) ?_
      refine gf_Mo_columns F hK hP d_Mo_run_27 ?_
      refine lv_if_ne (tgt := 50) hx hb d_Mo_run_30 (by decide) (fun c3 => ?_) (fun c3 => ?_)
      · exact absurd (by rw [u3_c (by decide)]; first | exact he | (rw [hn]; rfl)) c3
      · refine lv_aload_n hx hb d_Mo_run_33 rfl (lv_at hl 1 rfl) ?_
        refine lv_iconst (v := 0) hx hb d_Mo_run_34 (by decide) ?_
        refine x_Mo_isCut (r := r) (u := u) (by rw [u3_c (by decide)]; exact h_r) (by rw [u3_c (by decide)]; exact h_u) hr4 hu4 (n := 0) (by rw [u3_c (by decide)]; exact hn) (by decide) (mo_ok_of (u3_c (by decide)) (u3_c (by decide)) hok) (m0 := 0) (by decide) (by omega) (by omega) F (tt4 31 rfl rfl) ⟨Nat.le_of_ble_eq_true rfl, Nat.le_of_ble_eq_true rfl⟩ hK hP hl.1 (Nat.le_of_ble_eq_true rfl) ⟨Nat.zero_le _, Nat.zero_le _⟩ d_Mo_run_35 ?_
        refine lv_if_ne (tgt := 45) hx hb d_Mo_run_38 (by decide) (fun c4 => ?_) (fun c4 => ?_)
        · refine lv_aload_n hx hb d_Mo_run_45 rfl (lv_at hl 1 rfl) ?_
          refine lv_iconst (v := 1) hx hb d_Mo_run_46 (by decide) ?_
          refine pf_Mo_ended F hK hP hD hS (by rfl) (by rfl) d_Mo_run_47 (fun H locs hP hD hS => ?_)
          refine lv_aload_n hx hb d_Mo_run_50 rfl (lv_at hl 1 rfl) ?_
          refine gf_Mo_ended F hK hP d_Mo_run_51 ?_
          refine lv_if_ne (tgt := 240) hx hb d_Mo_run_54 (by decide) (fun c5 => ?_) (fun c5 => ?_)
          · have ew : u3 (u3 σ 0 0 0 0) 6 0 0 1 = u3 (if mo_c (u3 σ 0 0 0 0) r u 0 0 = 0 then mo_q (u3 σ 0 0 0 0) 0 0 else u3 σ 0 0 0 0) 6 0 0 1 := by rw [if_neg c4]
            rw [ew] at hP hD
            clear ew
            refine lv_aload_n hx hb d_Mo_run_240 rfl (lv_at hl 1 rfl) ?_
            refine gf_Mo_found F hK hP d_Mo_run_241 ?_
            refine lv_if_eq (tgt := 251) hx hb d_Mo_run_244 (by decide) (fun c6 => ?_) (fun c6 => ?_)
            · refine lv_iconst (v := 1) hx hb d_Mo_run_251 (by decide) ?_
              exact ok_iretM F hr hlk hP hD hS (by rw [u3_c (by decide)] at c6; simp [c6]) d_Mo_run_252
            · refine lv_iconst (v := 0) hx hb d_Mo_run_247 (by decide) ?_
              refine lv_goto (tgt := 252) hx hb d_Mo_run_248 (by decide) ?_
              exact ok_iretM F hr hlk hP hD hS (by rw [u3_c (by decide)] at c6; simp [c6]) d_Mo_run_252
          · exact absurd c5 (by rw [u3_s]; decide)
        · refine lv_aload_n hx hb d_Mo_run_41 rfl (lv_at hl 1 rfl) ?_
          refine x_Mo_keeps (n := 0) (by rw [u3_c (by decide)]; exact hn) (by decide) F (tt4 55 rfl rfl) ⟨Nat.le_of_ble_eq_true rfl, Nat.le_of_ble_eq_true rfl⟩ hK hP hD hS hA hl.1 (Nat.le_of_ble_eq_true rfl) ⟨Nat.zero_le _, Nat.zero_le _⟩ d_Mo_run_42 (fun H locs hP hD hS => ?_)
          refine lv_aload_n hx hb d_Mo_run_45 rfl (lv_at hl 1 rfl) ?_
          refine lv_iconst (v := 1) hx hb d_Mo_run_46 (by decide) ?_
          refine pf_Mo_ended F hK hP hD hS (by rfl) (by rfl) d_Mo_run_47 (fun H locs hP hD hS => ?_)
          refine lv_aload_n hx hb d_Mo_run_50 rfl (lv_at hl 1 rfl) ?_
          refine gf_Mo_ended F hK hP d_Mo_run_51 ?_
          refine lv_if_ne (tgt := 240) hx hb d_Mo_run_54 (by decide) (fun c7 => ?_) (fun c7 => ?_)
          · have ew : u3 (mo_q (u3 σ 0 0 0 0) 0 0) 6 0 0 1 = u3 (if mo_c (u3 σ 0 0 0 0) r u 0 0 = 0 then mo_q (u3 σ 0 0 0 0) 0 0 else u3 σ 0 0 0 0) 6 0 0 1 := by rw [if_pos c4]
            rw [ew] at hP hD
            clear ew
            refine lv_aload_n hx hb d_Mo_run_240 rfl (lv_at hl 1 rfl) ?_
            refine gf_Mo_found F hK hP d_Mo_run_241 ?_
            refine lv_if_eq (tgt := 251) hx hb d_Mo_run_244 (by decide) (fun c8 => ?_) (fun c8 => ?_)
            · refine lv_iconst (v := 1) hx hb d_Mo_run_251 (by decide) ?_
              exact ok_iretM F hr hlk hP hD hS (by rw [u3_c (by decide)] at c8; simp [c8]) d_Mo_run_252
            · refine lv_iconst (v := 0) hx hb d_Mo_run_247 (by decide) ?_
              refine lv_goto (tgt := 252) hx hb d_Mo_run_248 (by decide) ?_
              exact ok_iretM F hr hlk hP hD hS (by rw [u3_c (by decide)] at c8; simp [c8]) d_Mo_run_252
          · exact absurd c7 (by rw [u3_s]; decide)
  · exact absurd c1 (by rw [h1]; decide)
theorem x_Mo_run_0 {σ : oS} {r : Nat} {u : Nat} (h_r : σ 2 0 0 = nI r) (h_u : σ 3 0 0 = nI u) (hr4 : r ≤ 4) (hu4 : u ≤ 4) (hn : σ 1 0 0 = nI 0) (hok : mo_ok σ u) {x : Int32} {f : Nat} (hf : x = nI f) (hf9 : f < 100001) (h1 : mo_in x 0 100000 = 1) (he : σ 6 0 0 = 0) (F : CallFix p m c cc nL s args (cw :: tt) own) (hG : Cond.methodLink own index y_Mo_run ∈ tt) (hR : 3 + 1 ≤ R.frames ∧ 8 + (3 + 11) + 72 ≤ R.locals) (hK : va_K D vwCl (mt cI cZ) s) (hP : va_P D vwCl (mw cI cZ ad σ) H) (hD : va_D A (mw cI cZ ad σ)) (hS : va_S A H0 H locs) (hA : ∀ q, H0.size ≤ q → A q) (hsz : ls.size = nL) (hW : (rest.map fun v => v.category).sum ≤ 8) (hcs : cells ≤ R.cells ∧ slots ≤ R.slots) (hdg : decode cc pc = .ok (.invokevirtual index, 3)) (kk : ∀ (H1 : Heap) (locs1 : List Loc), va_P D vwCl (mw cI cZ ad (u3 (if mo_c (u3 σ 0 0 0 0) r u 0 0 = 0 then mo_q (u3 σ 0 0 0 0) 0 0 else u3 σ 0 0 0 0) 6 0 0 1)) H1 → va_D A (mw cI cZ ad (u3 (if mo_c (u3 σ 0 0 0 0) r u 0 0 = 0 then mo_q (u3 σ 0 0 0 0) 0 0 else u3 σ 0 0 0 0) 6 0 0 1)) → va_S A H0 H1 locs1 → W p l e R s m args below meth c H1 locs1 cells slots Q (F0 m (pc + 3) ls (.int (if (if mo_c (u3 σ 0 0 0 0) r u 0 0 = 0 then mo_q (u3 σ 0 0 0 0) 0 0 else u3 σ 0 0 0 0) 7 0 0 = 0 then 1 else 0) :: rest))) : W p l e R s m args below meth c H locs cells slots Q (F0 m pc ls (.int x :: .ref (ad 0) :: rest)) :=
  ok_VM (As := [.int x]) F (c_Mo_run_0 σ h_r h_u hr4 hu4 hn hok hf hf9 h1 he) 1 (tt_V hG i_Mo_run l_Mo_run in9_Mo k_Mo_run) rfl ⟨rfl, rfl⟩ (by decide +kernel) hR hK hP hD hS hA (0) 6 rfl rfl mw_0 rfl hsz rfl hW hcs hdg kk
set_option maxHeartbeats 4000000 in
set_option maxRecDepth 100000 in
theorem c_Mo_run_n (σ : oS) {r : Nat} {u : Nat} (h_r : σ 2 0 0 = nI r) (h_u : σ 3 0 0 = nI u) (hr4 : r ≤ 4) (hu4 : u ≤ 4) {n : Nat} (hn : σ 1 0 0 = nI n) (hn9 : n ≤ 5) (hok : mo_ok σ u) {x : Int32} {f : Nat} (hf : x = nI f) (hf9 : f < 100001) (h1 : mo_in x 0 100000 = 1) (he : σ 6 0 0 = 0) {q : Nat} (hq : σ 5 0 0 = nI q) (hqn : q < n) : ok_MM l y_Mo_run (Cond.code y_Mo_run b_Mo_run 3 (some .int) :: tt) { frames := 3, cells := 0, slots := 0, locals := 72 } D vwCl (mt cI cZ) (mw cI cZ ad σ) (mw cI cZ ad ((mo_R n r u f q (u3 σ 0 0 0 0)).1)) [.ref (ad 0), .int x] (some (.int (mo_R n r u f q (u3 σ 0 0 0 0)).2)) := by
  refine ok_startM (cc := b_Mo_run) (own := RMo) (maxL := 3) (ret := (some .int)) (by decide +kernel) rfl rfl (Nat.le_of_ble_eq_true rfl) ?_
  intro p e s m below meth c A F hr hlk hA hP hK hD hS ls hl
  have hl : lv_has ls 3 [(0, .ref (ad 0)), (1, .int x)] := hl
  have hx := F.1
  have hb := F.2.1
  have le : ∀ (τ : oS) (d : Nat), mo_R n r u f q (u3 σ 0 0 0 0) = (τ, if τ 7 0 0 = 0 then 1 else 0) → ∀ (H : Heap) (locs : List Loc), va_P D vwCl (mw cI cZ ad τ) H → va_D A (mw cI cZ ad τ) → va_S A s.heap H locs → ∀ ls : Array Slot, lv_has ls 3 [(2, .int (nI d)), (0, .ref (ad 0)), (1, .int x)] → W p l e { frames := 3, cells := 0, slots := 0, locals := 72 } s m ([.ref (ad 0), .int x] : List Value).toArray below meth c H locs 0 0 (MQ below (ok_qA D vwCl A (mw cI cZ ad ((mo_R n r u f q (u3 σ 0 0 0 0)).1)) (some (.int (mo_R n r u f q (u3 σ 0 0 0 0)).2))) ([.ref (ad 0), .int x] : List Value).toArray s 0 0 A) (F0 m 240 ls []) := by
    intro τ d heq H locs hP hD hS ls hl
    refine lv_aload_n hx hb d_Mo_run_240 rfl (lv_at hl 1 rfl) ?_
    refine gf_Mo_found F hK hP d_Mo_run_241 ?_
    refine lv_if_eq (tgt := 251) hx hb d_Mo_run_244 (by decide) (fun c1 => ?_) (fun c1 => ?_)
    · refine lv_iconst (v := 1) hx hb d_Mo_run_251 (by decide) ?_
      exact ok_iretM F hr hlk (by rw [heq]; exact hP) (by rw [heq]; exact hD) hS (by rw [heq]; simp [c1]) d_Mo_run_252
    · refine lv_iconst (v := 0) hx hb d_Mo_run_247 (by decide) ?_
      refine lv_goto (tgt := 252) hx hb d_Mo_run_248 (by decide) ?_
      exact ok_iretM F hr hlk (by rw [heq]; exact hP) (by rw [heq]; exact hD) hS (by rw [heq]; simp [c1]) d_Mo_run_252
  have lp : ∀ (d q9 : Nat) (τ : oS), d < 100001 → q9 < n → mo_J τ n r u q9 → mo_R n r u f q (u3 σ 0 0 0 0) = mo_R n r u d q9 τ → ∀ (H : Heap) (locs : List Loc), va_P D vwCl (mw cI cZ ad τ) H → va_D A (mw cI cZ ad τ) → va_S A s.heap H locs → ∀ ls : Array Slot, lv_has ls 3 [(2, .int (nI d)), (0, .ref (ad 0)), (1, .int x)] → W p l e { frames := 3, cells := 0, slots := 0, locals := 72 } s m ([.ref (ad 0), .int x] : List Value).toArray below meth c H locs 0 0 (MQ below (ok_qA D vwCl A (mw cI cZ ad ((mo_R n r u f q (u3 σ 0 0 0 0)).1)) (some (.int (mo_R n r u f q (u3 σ 0 0 0 0)).2))) ([.ref (ad 0), .int x] : List Value).toArray s 0 0 A) (F0 m 50 ls []) := by
    intro d
    induction d with
    | zero =>
      intro q9
      induction q9 with
      | zero =>
        intro τ hd hqn9 hJ heq H locs hP hD hS ls hl
        obtain ⟨i1, i2, i3, i4, i5, i6⟩ := id hJ
        rw [mo_R, mo_N] at heq
        refine lv_aload_n hx hb d_Mo_run_50 rfl (lv_at hl 1 rfl) ?_
        refine gf_Mo_ended F hK hP d_Mo_run_51 ?_
        refine lv_if_ne (tgt := 240) hx hb d_Mo_run_54 (by decide) (fun c2 => ?_) (fun c2 => ?_)
        · exact absurd i5 c2
        · refine lv_aload_n hx hb d_Mo_run_57 rfl (lv_at hl 1 rfl) ?_
          refine gf_Mo_next F hK hP d_Mo_run_58 ?_
          refine lv_aload_n hx hb d_Mo_run_61 rfl (lv_at hl 1 rfl) ?_
          refine gf_Mo_depth F hK hP d_Mo_run_62 ?_
          refine im_19 (j := 0) F hK hP i6 (by omega) d_Mo_run_65 ?_
          refine lv_if_ge (tgt := 110) hx hb d_Mo_run_66 (by decide) (fun c3 => ?_) (fun c3 => ?_)
          · rw [if_neg (Int32.not_lt.mpr c3)] at heq
            refine lv_iload_n hx hb d_Mo_run_110 rfl (lv_at hl 0 rfl) ?_
            refine lv_if_ne (tgt := 116) hx hb d_Mo_run_111 (by decide) (fun c4 => ?_) (fun c4 => ?_)
            · exact absurd rfl c4
            · refine lv_iconst (v := 2) hx hb d_Mo_run_114 (by decide) ?_
              exact ok_iretM F hr hlk (by rw [heq]; exact hP) (by rw [heq]; exact hD) hS (by rw [heq]) d_Mo_run_115
          · rw [if_pos (Int32.not_le.mp c3)] at heq
            refine lv_aload_n hx hb d_Mo_run_69 rfl (lv_at hl 1 rfl) ?_
            refine lv_dup hx hb d_Mo_run_70 rfl ?_
            refine gf_Mo_depth F hK hP d_Mo_run_71 ?_
            refine lv_iconst (v := 1) hx hb d_Mo_run_74 (by decide) ?_
            refine lv_isub hx hb d_Mo_run_75 ?_
            refine pf_Mo_depth F hK hP hD hS d_Mo_run_76 (fun H locs hP hD hS => ?_)
            have ew : u3 τ 5 0 0 ((τ 5 0 0) - 1) = u3 τ 5 0 0 (-1) := by rw [i6]; rfl
            rw [ew] at hP hD
            clear ew
            refine lv_aload_n hx hb d_Mo_run_79 rfl (lv_at hl 1 rfl) ?_
            refine gf_Mo_depth F hK hP d_Mo_run_80 ?_
            refine lv_if_ge (tgt := 94) hx hb d_Mo_run_83 (by decide) (fun c5 => ?_) (fun c5 => ?_)
            · exact absurd (by rw [u3_s] at c5; exact c5) (by decide)
            · refine lv_aload_n hx hb d_Mo_run_86 rfl (lv_at hl 1 rfl) ?_
              refine lv_iconst (v := 1) hx hb d_Mo_run_87 (by decide) ?_
              refine pf_Mo_ended F hK hP hD hS (by rfl) (by rfl) d_Mo_run_88 (fun H locs hP hD hS => ?_)
              refine lv_goto (tgt := 50) hx hb d_Mo_run_91 (by decide) ?_
              refine lv_aload_n hx hb d_Mo_run_50 rfl (lv_at hl 1 rfl) ?_
              refine gf_Mo_ended F hK hP d_Mo_run_51 ?_
              refine lv_if_ne (tgt := 240) hx hb d_Mo_run_54 (by decide) (fun _ => ?_) (fun c9 => absurd c9 (by rw [u3_s]; decide))
              exact le _ _ (by rw [heq, mo_E, u3_c (by decide), u3_c (by decide)]) _ _ hP hD hS ls (lv_sub hl [0, 1, 2] rfl)
      | succ q9 ihq =>
        intro τ hd hqn9 hJ heq H locs hP hD hS ls hl
        obtain ⟨i1, i2, i3, i4, i5, i6⟩ := id hJ
        rw [mo_R, mo_N] at heq
        refine lv_aload_n hx hb d_Mo_run_50 rfl (lv_at hl 1 rfl) ?_
        refine gf_Mo_ended F hK hP d_Mo_run_51 ?_
        refine lv_if_ne (tgt := 240) hx hb d_Mo_run_54 (by decide) (fun c6 => ?_) (fun c6 => ?_)
        · exact absurd i5 c6
        · refine lv_aload_n hx hb d_Mo_run_57 rfl (lv_at hl 1 rfl) ?_
          refine gf_Mo_next F hK hP d_Mo_run_58 ?_
          refine lv_aload_n hx hb d_Mo_run_61 rfl (lv_at hl 1 rfl) ?_
          refine gf_Mo_depth F hK hP d_Mo_run_62 ?_
          refine im_19 (j := (q9 + 1)) F hK hP i6 (by omega) d_Mo_run_65 ?_
          refine lv_if_ge (tgt := 110) hx hb d_Mo_run_66 (by decide) (fun c7 => ?_) (fun c7 => ?_)
          · rw [if_neg (Int32.not_lt.mpr c7)] at heq
            refine lv_iload_n hx hb d_Mo_run_110 rfl (lv_at hl 0 rfl) ?_
            refine lv_if_ne (tgt := 116) hx hb d_Mo_run_111 (by decide) (fun c8 => ?_) (fun c8 => ?_)
            · exact absurd rfl c8
            · refine lv_iconst (v := 2) hx hb d_Mo_run_114 (by decide) ?_
              exact ok_iretM F hr hlk (by rw [heq]; exact hP) (by rw [heq]; exact hD) hS (by rw [heq]) d_Mo_run_115
          · rw [if_pos (Int32.not_le.mp c7)] at heq
            refine lv_aload_n hx hb d_Mo_run_69 rfl (lv_at hl 1 rfl) ?_
            refine lv_dup hx hb d_Mo_run_70 rfl ?_
            refine gf_Mo_depth F hK hP d_Mo_run_71 ?_
            refine lv_iconst (v := 1) hx hb d_Mo_run_74 (by decide) ?_
            refine lv_isub hx hb d_Mo_run_75 ?_
            refine pf_Mo_depth F hK hP hD hS d_Mo_run_76 (fun H locs hP hD hS => ?_)
            have ew : u3 τ 5 0 0 ((τ 5 0 0) - 1) = u3 τ 5 0 0 (nI q9) := by rw [i6]; rw [nI_pred]
            rw [ew] at hP hD
            clear ew
            refine lv_aload_n hx hb d_Mo_run_79 rfl (lv_at hl 1 rfl) ?_
            refine gf_Mo_depth F hK hP d_Mo_run_80 ?_
            refine lv_if_ge (tgt := 94) hx hb d_Mo_run_83 (by decide) (fun c9 => ?_) (fun c9 => ?_)
            · refine lv_aload_n hx hb d_Mo_run_94 rfl (lv_at hl 1 rfl) ?_
              refine gf_Mo_next F hK hP d_Mo_run_95 ?_
              refine lv_aload_n hx hb d_Mo_run_98 rfl (lv_at hl 1 rfl) ?_
              refine gf_Mo_depth F hK hP d_Mo_run_99 ?_
              refine lv_dup2_11 hx hb d_Mo_run_102 rfl rfl ?_
              refine im_19 (j := q9) F hK hP u3_s (by omega) d_Mo_run_103 ?_
              refine lv_iconst (v := 1) hx hb d_Mo_run_104 (by decide) ?_
              refine lv_isub hx hb d_Mo_run_105 ?_
              refine sm_19 (j := q9) F hK hP hD hS u3_s (by omega) d_Mo_run_106 (fun H locs hP hD hS => ?_)
              refine lv_goto (tgt := 50) hx hb d_Mo_run_107 (by decide) ?_
              have ew : u3 (u3 τ 5 0 0 (nI q9)) 19 0 q9 (((u3 τ 5 0 0 (nI q9)) 19 0 q9) - 1) = u3 (u3 τ 5 0 0 (nI q9)) 19 0 q9 (τ 19 0 q9 - 1) := by rw [u3_c (by decide)]
              rw [ew] at hP hD
              clear ew
              exact ihq _ hd (by omega) (mo_J_of hJ (fun c hc => by rw [u3_c (by omega), u3_c (by omega)]) (by rw [u3_c (by decide), u3_s])) heq _ _ hP hD hS ls (lv_sub hl [0, 1, 2] rfl)
            · exact absurd (by rw [u3_s]; exact nI_pos' (by omega)) c9
    | succ d ih =>
      intro q9
      induction q9 with
      | zero =>
        intro τ hd hqn9 hJ heq H locs hP hD hS ls hl
        obtain ⟨i1, i2, i3, i4, i5, i6⟩ := id hJ
        rw [mo_R, mo_N] at heq
        refine lv_aload_n hx hb d_Mo_run_50 rfl (lv_at hl 1 rfl) ?_
        refine gf_Mo_ended F hK hP d_Mo_run_51 ?_
        refine lv_if_ne (tgt := 240) hx hb d_Mo_run_54 (by decide) (fun c10 => ?_) (fun c10 => ?_)
        · exact absurd i5 c10
        · refine lv_aload_n hx hb d_Mo_run_57 rfl (lv_at hl 1 rfl) ?_
          refine gf_Mo_next F hK hP d_Mo_run_58 ?_
          refine lv_aload_n hx hb d_Mo_run_61 rfl (lv_at hl 1 rfl) ?_
          refine gf_Mo_depth F hK hP d_Mo_run_62 ?_
          refine im_19 (j := 0) F hK hP i6 (by omega) d_Mo_run_65 ?_
          refine lv_if_ge (tgt := 110) hx hb d_Mo_run_66 (by decide) (fun c11 => ?_) (fun c11 => ?_)
          · rw [if_neg (Int32.not_lt.mpr c11)] at heq
            refine lv_iload_n hx hb d_Mo_run_110 rfl (lv_at hl 0 rfl) ?_
            refine lv_if_ne (tgt := 116) hx hb d_Mo_run_111 (by decide) (fun c12 => ?_) (fun c12 => ?_)
            · refine lv_iinc (v := (nI (d + 1)) + (-1)) (lv' := [(2, .int ((nI (d + 1)) + (-1))), (0, .ref (ad 0)), (1, .int x)]) hx hb d_Mo_run_116 hl (k := 0) rfl (by rw [litm1]) (by decide) rfl (fun ls hl => ?_)
              refine lv_aload_n hx hb d_Mo_run_119 rfl (lv_at hl 1 rfl) ?_
              refine lv_dup hx hb d_Mo_run_120 rfl ?_
              refine gf_Mo_steps F hK hP d_Mo_run_121 ?_
              refine lv_iconst (v := 1) hx hb d_Mo_run_124 (by decide) ?_
              refine lv_iadd hx hb d_Mo_run_125 ?_
              refine pf_Mo_steps F hK hP hD hS d_Mo_run_126 (fun H locs hP hD hS => ?_)
              refine lv_aload_n hx hb d_Mo_run_129 rfl (lv_at hl 1 rfl) ?_
              refine gf_Mo_number F hK hP d_Mo_run_130 ?_
              refine lv_aload_n hx hb d_Mo_run_133 rfl (lv_at hl 1 rfl) ?_
              refine gf_Mo_depth F hK hP d_Mo_run_134 ?_
              refine lv_aload_n hx hb d_Mo_run_137 rfl (lv_at hl 1 rfl) ?_
              refine gf_Mo_next F hK hP d_Mo_run_138 ?_
              refine lv_aload_n hx hb d_Mo_run_141 rfl (lv_at hl 1 rfl) ?_
              refine gf_Mo_depth F hK hP d_Mo_run_142 ?_
              refine im_19 (j := 0) F hK hP (by rw [u3_c (by decide)]; exact i6) (by omega) d_Mo_run_145 ?_
              refine sm_20 (j := 0) F hK hP hD hS (by rw [u3_c (by decide)]; exact i6) (by omega) d_Mo_run_146 (fun H locs hP hD hS => ?_)
              have ew : u3 (u3 τ 8 0 0 ((τ 8 0 0) + 1)) 20 0 0 ((u3 τ 8 0 0 ((τ 8 0 0) + 1)) 19 0 0) = mo_1 τ 0 := by rw [u3_c (by decide)]; rfl
              rw [ew] at hP hD
              clear ew
              refine lv_aload_n hx hb d_Mo_run_147 rfl (lv_at hl 1 rfl) ?_
              refine lv_aload_n hx hb d_Mo_run_148 rfl (lv_at hl 1 rfl) ?_
              refine gf_Mo_depth F hK hP d_Mo_run_149 ?_
              refine lv_iconst (v := 1) hx hb d_Mo_run_152 (by decide) ?_
              refine lv_iadd hx hb d_Mo_run_153 ?_
              refine x_Mo_isCut (r := r) (u := u) (by rw [mo_1_c (by decide) (by decide)]; exact i2) (by rw [mo_1_c (by decide) (by decide)]; exact i3) hr4 hu4 (n := n) (by rw [mo_1_c (by decide) (by decide)]; exact i1) hn9 (mo_ok_of (mo_1_c (by decide) (by decide)) (mo_1_c (by decide) (by decide)) i4) (m0 := (0 + 1)) (by rw [mo_1_c (by decide) (by decide), i6, nI_1]) (by omega) (by omega) F (tt4 31 rfl rfl) ⟨Nat.le_of_ble_eq_true rfl, Nat.le_of_ble_eq_true rfl⟩ hK hP hl.1 (Nat.le_of_ble_eq_true rfl) ⟨Nat.zero_le _, Nat.zero_le _⟩ d_Mo_run_154 ?_
              refine lv_if_eq (tgt := 176) hx hb d_Mo_run_157 (by decide) (fun c13 => ?_) (fun c13 => ?_)
              · have hcut := c13
                refine lv_aload_n hx hb d_Mo_run_176 rfl (lv_at hl 1 rfl) ?_
                refine gf_Mo_depth F hK hP d_Mo_run_177 ?_
                refine lv_aload_n hx hb d_Mo_run_180 rfl (lv_at hl 1 rfl) ?_
                refine gf_Mo_columns F hK hP d_Mo_run_181 ?_
                refine lv_iconst (v := 1) hx hb d_Mo_run_184 (by decide) ?_
                refine lv_isub hx hb d_Mo_run_185 ?_
                refine lv_icmp_ne (tgt := 209) hx hb d_Mo_run_186 (by decide) (fun c14 => ?_) (fun c14 => ?_)
                · have hlast : ¬ 0 + 1 = n := by
                    rw [mo_1_c (by decide) (by decide), mo_1_c (by decide) (by decide), i6, i1, nI_pm (by omega), nI_eq (by omega) (by omega)] at c14; omega
                  rw [mo_T, if_pos hcut, if_neg hlast] at heq
                  refine lv_aload_n hx hb d_Mo_run_209 rfl (lv_at hl 1 rfl) ?_
                  refine lv_dup hx hb d_Mo_run_210 rfl ?_
                  refine gf_Mo_depth F hK hP d_Mo_run_211 ?_
                  refine lv_iconst (v := 1) hx hb d_Mo_run_214 (by decide) ?_
                  refine lv_iadd hx hb d_Mo_run_215 ?_
                  refine pf_Mo_depth F hK hP hD hS d_Mo_run_216 (fun H locs hP hD hS => ?_)
                  have ew : u3 (mo_1 τ 0) 5 0 0 (((mo_1 τ 0) 5 0 0) + 1) = u3 (mo_1 τ 0) 5 0 0 (nI (0 + 1)) := by rw [mo_1_c (by decide) (by decide), i6, nI_1]
                  rw [ew] at hP hD
                  clear ew
                  refine lv_aload_n hx hb d_Mo_run_219 rfl (lv_at hl 1 rfl) ?_
                  refine gf_Mo_next F hK hP d_Mo_run_220 ?_
                  refine lv_aload_n hx hb d_Mo_run_223 rfl (lv_at hl 1 rfl) ?_
                  refine gf_Mo_depth F hK hP d_Mo_run_224 ?_
                  refine lv_aload_n hx hb d_Mo_run_227 rfl (lv_at hl 1 rfl) ?_
                  refine gf_Mo_top F hK hP d_Mo_run_228 ?_
                  refine lv_aload_n hx hb d_Mo_run_231 rfl (lv_at hl 1 rfl) ?_
                  refine gf_Mo_depth F hK hP d_Mo_run_232 ?_
                  refine im_11 (j := (0 + 1)) F hK hP u3_s (by omega) d_Mo_run_235 ?_
                  refine sm_19 (j := (0 + 1)) F hK hP hD hS u3_s (by omega) d_Mo_run_236 (fun H locs hP hD hS => ?_)
                  refine lv_goto (tgt := 50) hx hb d_Mo_run_237 (by decide) ?_
                  have ew : u3 (u3 (mo_1 τ 0) 5 0 0 (nI (0 + 1))) 19 0 (0 + 1) ((u3 (mo_1 τ 0) 5 0 0 (nI (0 + 1))) 11 0 (0 + 1)) = u3 (u3 (mo_1 τ 0) 5 0 0 (nI (0 + 1))) 19 0 (0 + 1) (τ 11 0 (0 + 1)) := by rw [u3_c (by decide), mo_1_c (by decide) (by decide)]
                  rw [ew] at hP hD
                  clear ew
                  rw [pk_m1] at hl
                  exact ih (0 + 1) _ (by omega) (by omega) (mo_J_of hJ (fun c hc => by rw [u3_c (by omega), u3_c (by omega), mo_1_c (by omega) (by omega)]) (by rw [u3_c (by decide), u3_s])) heq _ _ hP hD hS ls (lv_sub hl [0, 1, 2] rfl)
                · have hlast : 0 + 1 = n := by
                    rw [mo_1_c (by decide) (by decide), mo_1_c (by decide) (by decide), i6, i1, nI_pm (by omega), nI_eq (by omega) (by omega)] at c14; omega
                  rw [mo_T, if_pos hcut, if_pos hlast] at heq
                  refine lv_aload_n hx hb d_Mo_run_189 rfl (lv_at hl 1 rfl) ?_
                  refine x_Mo_keeps (n := n) (by rw [mo_1_c (by decide) (by decide)]; exact i1) hn9 F (tt4 55 rfl rfl) ⟨Nat.le_of_ble_eq_true rfl, Nat.le_of_ble_eq_true rfl⟩ hK hP hD hS hA hl.1 (Nat.le_of_ble_eq_true rfl) ⟨Nat.zero_le _, Nat.zero_le _⟩ d_Mo_run_190 (fun H locs hP hD hS => ?_)
                  refine lv_aload_n hx hb d_Mo_run_193 rfl (lv_at hl 1 rfl) ?_
                  refine gf_Mo_next F hK hP d_Mo_run_194 ?_
                  refine lv_aload_n hx hb d_Mo_run_197 rfl (lv_at hl 1 rfl) ?_
                  refine gf_Mo_depth F hK hP d_Mo_run_198 ?_
                  refine lv_dup2_11 hx hb d_Mo_run_201 rfl rfl ?_
                  refine im_19 (j := 0) F hK hP (by rw [mo_q_c (by decide) (by decide) (by decide), mo_1_c (by decide) (by decide)]; exact i6) (by omega) d_Mo_run_202 ?_
                  refine lv_iconst (v := 1) hx hb d_Mo_run_203 (by decide) ?_
                  refine lv_isub hx hb d_Mo_run_204 ?_
                  refine sm_19 (j := 0) F hK hP hD hS (by rw [mo_q_c (by decide) (by decide) (by decide), mo_1_c (by decide) (by decide)]; exact i6) (by omega) d_Mo_run_205 (fun H locs hP hD hS => ?_)
                  refine lv_goto (tgt := 50) hx hb d_Mo_run_206 (by decide) ?_
                  have ew : u3 (mo_q (mo_1 τ 0) n n) 19 0 0 (((mo_q (mo_1 τ 0) n n) 19 0 0) - 1) = u3 (mo_q (mo_1 τ 0) n n) 19 0 0 (τ 19 0 0 - 1) := by rw [mo_q_c (by decide) (by decide) (by decide), mo_1_c (by decide) (by decide)]
                  rw [ew] at hP hD
                  clear ew
                  rw [pk_m1] at hl
                  exact ih 0 _ (by omega) (by omega) (mo_J_of hJ (fun c hc => by rw [u3_c (by omega), mo_q_c (by omega) (by omega) (by omega), mo_1_c (by omega) (by omega)]) (by rw [u3_c (by decide), mo_q_c (by decide) (by decide) (by decide), mo_1_c (by decide) (by decide)]; exact i6)) heq _ _ hP hD hS ls (lv_sub hl [0, 1, 2] rfl)
              · rw [mo_T, if_neg c13] at heq
                refine lv_aload_n hx hb d_Mo_run_160 rfl (lv_at hl 1 rfl) ?_
                refine gf_Mo_next F hK hP d_Mo_run_161 ?_
                refine lv_aload_n hx hb d_Mo_run_164 rfl (lv_at hl 1 rfl) ?_
                refine gf_Mo_depth F hK hP d_Mo_run_165 ?_
                refine lv_dup2_11 hx hb d_Mo_run_168 rfl rfl ?_
                refine im_19 (j := 0) F hK hP (by rw [mo_1_c (by decide) (by decide)]; exact i6) (by omega) d_Mo_run_169 ?_
                refine lv_iconst (v := 1) hx hb d_Mo_run_170 (by decide) ?_
                refine lv_isub hx hb d_Mo_run_171 ?_
                refine sm_19 (j := 0) F hK hP hD hS (by rw [mo_1_c (by decide) (by decide)]; exact i6) (by omega) d_Mo_run_172 (fun H locs hP hD hS => ?_)
                refine lv_goto (tgt := 50) hx hb d_Mo_run_173 (by decide) ?_
                have ew : u3 (mo_1 τ 0) 19 0 0 (((mo_1 τ 0) 19 0 0) - 1) = u3 (mo_1 τ 0) 19 0 0 (τ 19 0 0 - 1) := by rw [mo_1_c (by decide) (by decide)]
                rw [ew] at hP hD
                clear ew
                rw [pk_m1] at hl
                exact ih 0 _ (by omega) (by omega) (mo_J_of hJ (fun c hc => by rw [u3_c (by omega), mo_1_c (by omega) (by omega)]) (by rw [u3_c (by decide), mo_1_c (by decide) (by decide)]; exact i6)) heq _ _ hP hD hS ls (lv_sub hl [0, 1, 2] rfl)
            · exact absurd c12 (nI_ne0 (by omega) (by omega))
          · rw [if_pos (Int32.not_le.mp c11)] at heq
            refine lv_aload_n hx hb d_Mo_run_69 rfl (lv_at hl 1 rfl) ?_
            refine lv_dup hx hb d_Mo_run_70 rfl ?_
            refine gf_Mo_depth F hK hP d_Mo_run_71 ?_
            refine lv_iconst (v := 1) hx hb d_Mo_run_74 (by decide) ?_
            refine lv_isub hx hb d_Mo_run_75 ?_
            refine pf_Mo_depth F hK hP hD hS d_Mo_run_76 (fun H locs hP hD hS => ?_)
            have ew : u3 τ 5 0 0 ((τ 5 0 0) - 1) = u3 τ 5 0 0 (-1) := by rw [i6]; rfl
            rw [ew] at hP hD
            clear ew
            refine lv_aload_n hx hb d_Mo_run_79 rfl (lv_at hl 1 rfl) ?_
            refine gf_Mo_depth F hK hP d_Mo_run_80 ?_
            refine lv_if_ge (tgt := 94) hx hb d_Mo_run_83 (by decide) (fun c15 => ?_) (fun c15 => ?_)
            · exact absurd (by rw [u3_s] at c15; exact c15) (by decide)
            · refine lv_aload_n hx hb d_Mo_run_86 rfl (lv_at hl 1 rfl) ?_
              refine lv_iconst (v := 1) hx hb d_Mo_run_87 (by decide) ?_
              refine pf_Mo_ended F hK hP hD hS (by rfl) (by rfl) d_Mo_run_88 (fun H locs hP hD hS => ?_)
              refine lv_goto (tgt := 50) hx hb d_Mo_run_91 (by decide) ?_
              refine lv_aload_n hx hb d_Mo_run_50 rfl (lv_at hl 1 rfl) ?_
              refine gf_Mo_ended F hK hP d_Mo_run_51 ?_
              refine lv_if_ne (tgt := 240) hx hb d_Mo_run_54 (by decide) (fun _ => ?_) (fun c9 => absurd c9 (by rw [u3_s]; decide))
              exact le _ _ (by rw [heq, mo_E, u3_c (by decide), u3_c (by decide)]) _ _ hP hD hS ls (lv_sub hl [0, 1, 2] rfl)
      | succ q9 ihq =>
        intro τ hd hqn9 hJ heq H locs hP hD hS ls hl
        obtain ⟨i1, i2, i3, i4, i5, i6⟩ := id hJ
        rw [mo_R, mo_N] at heq
        refine lv_aload_n hx hb d_Mo_run_50 rfl (lv_at hl 1 rfl) ?_
        refine gf_Mo_ended F hK hP d_Mo_run_51 ?_
        refine lv_if_ne (tgt := 240) hx hb d_Mo_run_54 (by decide) (fun c16 => ?_) (fun c16 => ?_)
        · exact absurd i5 c16
        · refine lv_aload_n hx hb d_Mo_run_57 rfl (lv_at hl 1 rfl) ?_
          refine gf_Mo_next F hK hP d_Mo_run_58 ?_
          refine lv_aload_n hx hb d_Mo_run_61 rfl (lv_at hl 1 rfl) ?_
          refine gf_Mo_depth F hK hP d_Mo_run_62 ?_
          refine im_19 (j := (q9 + 1)) F hK hP i6 (by omega) d_Mo_run_65 ?_
          refine lv_if_ge (tgt := 110) hx hb d_Mo_run_66 (by decide) (fun c17 => ?_) (fun c17 => ?_)
          · rw [if_neg (Int32.not_lt.mpr c17)] at heq
            refine lv_iload_n hx hb d_Mo_run_110 rfl (lv_at hl 0 rfl) ?_
            refine lv_if_ne (tgt := 116) hx hb d_Mo_run_111 (by decide) (fun c18 => ?_) (fun c18 => ?_)
            · refine lv_iinc (v := (nI (d + 1)) + (-1)) (lv' := [(2, .int ((nI (d + 1)) + (-1))), (0, .ref (ad 0)), (1, .int x)]) hx hb d_Mo_run_116 hl (k := 0) rfl (by rw [litm1]) (by decide) rfl (fun ls hl => ?_)
              refine lv_aload_n hx hb d_Mo_run_119 rfl (lv_at hl 1 rfl) ?_
              refine lv_dup hx hb d_Mo_run_120 rfl ?_
              refine gf_Mo_steps F hK hP d_Mo_run_121 ?_
              refine lv_iconst (v := 1) hx hb d_Mo_run_124 (by decide) ?_
              refine lv_iadd hx hb d_Mo_run_125 ?_
              refine pf_Mo_steps F hK hP hD hS d_Mo_run_126 (fun H locs hP hD hS => ?_)
              refine lv_aload_n hx hb d_Mo_run_129 rfl (lv_at hl 1 rfl) ?_
              refine gf_Mo_number F hK hP d_Mo_run_130 ?_
              refine lv_aload_n hx hb d_Mo_run_133 rfl (lv_at hl 1 rfl) ?_
              refine gf_Mo_depth F hK hP d_Mo_run_134 ?_
              refine lv_aload_n hx hb d_Mo_run_137 rfl (lv_at hl 1 rfl) ?_
              refine gf_Mo_next F hK hP d_Mo_run_138 ?_
              refine lv_aload_n hx hb d_Mo_run_141 rfl (lv_at hl 1 rfl) ?_
              refine gf_Mo_depth F hK hP d_Mo_run_142 ?_
              refine im_19 (j := (q9 + 1)) F hK hP (by rw [u3_c (by decide)]; exact i6) (by omega) d_Mo_run_145 ?_
              refine sm_20 (j := (q9 + 1)) F hK hP hD hS (by rw [u3_c (by decide)]; exact i6) (by omega) d_Mo_run_146 (fun H locs hP hD hS => ?_)
              have ew : u3 (u3 τ 8 0 0 ((τ 8 0 0) + 1)) 20 0 (q9 + 1) ((u3 τ 8 0 0 ((τ 8 0 0) + 1)) 19 0 (q9 + 1)) = mo_1 τ (q9 + 1) := by rw [u3_c (by decide)]; rfl
              rw [ew] at hP hD
              clear ew
              refine lv_aload_n hx hb d_Mo_run_147 rfl (lv_at hl 1 rfl) ?_
              refine lv_aload_n hx hb d_Mo_run_148 rfl (lv_at hl 1 rfl) ?_
              refine gf_Mo_depth F hK hP d_Mo_run_149 ?_
              refine lv_iconst (v := 1) hx hb d_Mo_run_152 (by decide) ?_
              refine lv_iadd hx hb d_Mo_run_153 ?_
              refine x_Mo_isCut (r := r) (u := u) (by rw [mo_1_c (by decide) (by decide)]; exact i2) (by rw [mo_1_c (by decide) (by decide)]; exact i3) hr4 hu4 (n := n) (by rw [mo_1_c (by decide) (by decide)]; exact i1) hn9 (mo_ok_of (mo_1_c (by decide) (by decide)) (mo_1_c (by decide) (by decide)) i4) (m0 := (q9 + 1 + 1)) (by rw [mo_1_c (by decide) (by decide), i6, nI_1]) (by omega) (by omega) F (tt4 31 rfl rfl) ⟨Nat.le_of_ble_eq_true rfl, Nat.le_of_ble_eq_true rfl⟩ hK hP hl.1 (Nat.le_of_ble_eq_true rfl) ⟨Nat.zero_le _, Nat.zero_le _⟩ d_Mo_run_154 ?_
              refine lv_if_eq (tgt := 176) hx hb d_Mo_run_157 (by decide) (fun c19 => ?_) (fun c19 => ?_)
              · have hcut := c19
                refine lv_aload_n hx hb d_Mo_run_176 rfl (lv_at hl 1 rfl) ?_
                refine gf_Mo_depth F hK hP d_Mo_run_177 ?_
                refine lv_aload_n hx hb d_Mo_run_180 rfl (lv_at hl 1 rfl) ?_
                refine gf_Mo_columns F hK hP d_Mo_run_181 ?_
                refine lv_iconst (v := 1) hx hb d_Mo_run_184 (by decide) ?_
                refine lv_isub hx hb d_Mo_run_185 ?_
                refine lv_icmp_ne (tgt := 209) hx hb d_Mo_run_186 (by decide) (fun c20 => ?_) (fun c20 => ?_)
                · have hlast : ¬ (q9 + 1) + 1 = n := by
                    rw [mo_1_c (by decide) (by decide), mo_1_c (by decide) (by decide), i6, i1, nI_pm (by omega), nI_eq (by omega) (by omega)] at c20; omega
                  rw [mo_T, if_pos hcut, if_neg hlast] at heq
                  refine lv_aload_n hx hb d_Mo_run_209 rfl (lv_at hl 1 rfl) ?_
                  refine lv_dup hx hb d_Mo_run_210 rfl ?_
                  refine gf_Mo_depth F hK hP d_Mo_run_211 ?_
                  refine lv_iconst (v := 1) hx hb d_Mo_run_214 (by decide) ?_
                  refine lv_iadd hx hb d_Mo_run_215 ?_
                  refine pf_Mo_depth F hK hP hD hS d_Mo_run_216 (fun H locs hP hD hS => ?_)
                  have ew : u3 (mo_1 τ (q9 + 1)) 5 0 0 (((mo_1 τ (q9 + 1)) 5 0 0) + 1) = u3 (mo_1 τ (q9 + 1)) 5 0 0 (nI ((q9 + 1) + 1)) := by rw [mo_1_c (by decide) (by decide), i6, nI_1]
                  rw [ew] at hP hD
                  clear ew
                  refine lv_aload_n hx hb d_Mo_run_219 rfl (lv_at hl 1 rfl) ?_
                  refine gf_Mo_next F hK hP d_Mo_run_220 ?_
                  refine lv_aload_n hx hb d_Mo_run_223 rfl (lv_at hl 1 rfl) ?_
                  refine gf_Mo_depth F hK hP d_Mo_run_224 ?_
                  refine lv_aload_n hx hb d_Mo_run_227 rfl (lv_at hl 1 rfl) ?_
                  refine gf_Mo_top F hK hP d_Mo_run_228 ?_
                  refine lv_aload_n hx hb d_Mo_run_231 rfl (lv_at hl 1 rfl) ?_
                  refine gf_Mo_depth F hK hP d_Mo_run_232 ?_
                  refine im_11 (j := ((q9 + 1) + 1)) F hK hP u3_s (by omega) d_Mo_run_235 ?_
                  refine sm_19 (j := ((q9 + 1) + 1)) F hK hP hD hS u3_s (by omega) d_Mo_run_236 (fun H locs hP hD hS => ?_)
                  refine lv_goto (tgt := 50) hx hb d_Mo_run_237 (by decide) ?_
                  have ew : u3 (u3 (mo_1 τ (q9 + 1)) 5 0 0 (nI ((q9 + 1) + 1))) 19 0 ((q9 + 1) + 1) ((u3 (mo_1 τ (q9 + 1)) 5 0 0 (nI ((q9 + 1) + 1))) 11 0 ((q9 + 1) + 1)) = u3 (u3 (mo_1 τ (q9 + 1)) 5 0 0 (nI ((q9 + 1) + 1))) 19 0 ((q9 + 1) + 1) (τ 11 0 ((q9 + 1) + 1)) := by rw [u3_c (by decide), mo_1_c (by decide) (by decide)]
                  rw [ew] at hP hD
                  clear ew
                  rw [pk_m1] at hl
                  exact ih ((q9 + 1) + 1) _ (by omega) (by omega) (mo_J_of hJ (fun c hc => by rw [u3_c (by omega), u3_c (by omega), mo_1_c (by omega) (by omega)]) (by rw [u3_c (by decide), u3_s])) heq _ _ hP hD hS ls (lv_sub hl [0, 1, 2] rfl)
                · have hlast : (q9 + 1) + 1 = n := by
                    rw [mo_1_c (by decide) (by decide), mo_1_c (by decide) (by decide), i6, i1, nI_pm (by omega), nI_eq (by omega) (by omega)] at c20; omega
                  rw [mo_T, if_pos hcut, if_pos hlast] at heq
                  refine lv_aload_n hx hb d_Mo_run_189 rfl (lv_at hl 1 rfl) ?_
                  refine x_Mo_keeps (n := n) (by rw [mo_1_c (by decide) (by decide)]; exact i1) hn9 F (tt4 55 rfl rfl) ⟨Nat.le_of_ble_eq_true rfl, Nat.le_of_ble_eq_true rfl⟩ hK hP hD hS hA hl.1 (Nat.le_of_ble_eq_true rfl) ⟨Nat.zero_le _, Nat.zero_le _⟩ d_Mo_run_190 (fun H locs hP hD hS => ?_)
                  refine lv_aload_n hx hb d_Mo_run_193 rfl (lv_at hl 1 rfl) ?_
                  refine gf_Mo_next F hK hP d_Mo_run_194 ?_
                  refine lv_aload_n hx hb d_Mo_run_197 rfl (lv_at hl 1 rfl) ?_
                  refine gf_Mo_depth F hK hP d_Mo_run_198 ?_
                  refine lv_dup2_11 hx hb d_Mo_run_201 rfl rfl ?_
                  refine im_19 (j := (q9 + 1)) F hK hP (by rw [mo_q_c (by decide) (by decide) (by decide), mo_1_c (by decide) (by decide)]; exact i6) (by omega) d_Mo_run_202 ?_
                  refine lv_iconst (v := 1) hx hb d_Mo_run_203 (by decide) ?_
                  refine lv_isub hx hb d_Mo_run_204 ?_
                  refine sm_19 (j := (q9 + 1)) F hK hP hD hS (by rw [mo_q_c (by decide) (by decide) (by decide), mo_1_c (by decide) (by decide)]; exact i6) (by omega) d_Mo_run_205 (fun H locs hP hD hS => ?_)
                  refine lv_goto (tgt := 50) hx hb d_Mo_run_206 (by decide) ?_
                  have ew : u3 (mo_q (mo_1 τ (q9 + 1)) n n) 19 0 (q9 + 1) (((mo_q (mo_1 τ (q9 + 1)) n n) 19 0 (q9 + 1)) - 1) = u3 (mo_q (mo_1 τ (q9 + 1)) n n) 19 0 (q9 + 1) (τ 19 0 (q9 + 1) - 1) := by rw [mo_q_c (by decide) (by decide) (by decide), mo_1_c (by decide) (by decide)]
                  rw [ew] at hP hD
                  clear ew
                  rw [pk_m1] at hl
                  exact ih (q9 + 1) _ (by omega) (by omega) (mo_J_of hJ (fun c hc => by rw [u3_c (by omega), mo_q_c (by omega) (by omega) (by omega), mo_1_c (by omega) (by omega)]) (by rw [u3_c (by decide), mo_q_c (by decide) (by decide) (by decide), mo_1_c (by decide) (by decide)]; exact i6)) heq _ _ hP hD hS ls (lv_sub hl [0, 1, 2] rfl)
              · rw [mo_T, if_neg c19] at heq
                refine lv_aload_n hx hb d_Mo_run_160 rfl (lv_at hl 1 rfl) ?_
                refine gf_Mo_next F hK hP d_Mo_run_161 ?_
                refine lv_aload_n hx hb d_Mo_run_164 rfl (lv_at hl 1 rfl) ?_
                refine gf_Mo_depth F hK hP d_Mo_run_165 ?_
                refine lv_dup2_11 hx hb d_Mo_run_168 rfl rfl ?_
                refine im_19 (j := (q9 + 1)) F hK hP (by rw [mo_1_c (by decide) (by decide)]; exact i6) (by omega) d_Mo_run_169 ?_
                refine lv_iconst (v := 1) hx hb d_Mo_run_170 (by decide) ?_
                refine lv_isub hx hb d_Mo_run_171 ?_
                refine sm_19 (j := (q9 + 1)) F hK hP hD hS (by rw [mo_1_c (by decide) (by decide)]; exact i6) (by omega) d_Mo_run_172 (fun H locs hP hD hS => ?_)
                refine lv_goto (tgt := 50) hx hb d_Mo_run_173 (by decide) ?_
                have ew : u3 (mo_1 τ (q9 + 1)) 19 0 (q9 + 1) (((mo_1 τ (q9 + 1)) 19 0 (q9 + 1)) - 1) = u3 (mo_1 τ (q9 + 1)) 19 0 (q9 + 1) (τ 19 0 (q9 + 1) - 1) := by rw [mo_1_c (by decide) (by decide)]
                rw [ew] at hP hD
                clear ew
                rw [pk_m1] at hl
                exact ih (q9 + 1) _ (by omega) (by omega) (mo_J_of hJ (fun c hc => by rw [u3_c (by omega), mo_1_c (by omega) (by omega)]) (by rw [u3_c (by decide), mo_1_c (by decide) (by decide)]; exact i6)) heq _ _ hP hD hS ls (lv_sub hl [0, 1, 2] rfl)
            · exact absurd c18 (nI_ne0 (by omega) (by omega))
          · rw [if_pos (Int32.not_le.mp c17)] at heq
            refine lv_aload_n hx hb d_Mo_run_69 rfl (lv_at hl 1 rfl) ?_
            refine lv_dup hx hb d_Mo_run_70 rfl ?_
            refine gf_Mo_depth F hK hP d_Mo_run_71 ?_
            refine lv_iconst (v := 1) hx hb d_Mo_run_74 (by decide) ?_
            refine lv_isub hx hb d_Mo_run_75 ?_
            refine pf_Mo_depth F hK hP hD hS d_Mo_run_76 (fun H locs hP hD hS => ?_)
            have ew : u3 τ 5 0 0 ((τ 5 0 0) - 1) = u3 τ 5 0 0 (nI q9) := by rw [i6]; rw [nI_pred]
            rw [ew] at hP hD
            clear ew
            refine lv_aload_n hx hb d_Mo_run_79 rfl (lv_at hl 1 rfl) ?_
            refine gf_Mo_depth F hK hP d_Mo_run_80 ?_
            refine lv_if_ge (tgt := 94) hx hb d_Mo_run_83 (by decide) (fun c21 => ?_) (fun c21 => ?_)
            · refine lv_aload_n hx hb d_Mo_run_94 rfl (lv_at hl 1 rfl) ?_
              refine gf_Mo_next F hK hP d_Mo_run_95 ?_
              refine lv_aload_n hx hb d_Mo_run_98 rfl (lv_at hl 1 rfl) ?_
              refine gf_Mo_depth F hK hP d_Mo_run_99 ?_
              refine lv_dup2_11 hx hb d_Mo_run_102 rfl rfl ?_
              refine im_19 (j := q9) F hK hP u3_s (by omega) d_Mo_run_103 ?_
              refine lv_iconst (v := 1) hx hb d_Mo_run_104 (by decide) ?_
              refine lv_isub hx hb d_Mo_run_105 ?_
              refine sm_19 (j := q9) F hK hP hD hS u3_s (by omega) d_Mo_run_106 (fun H locs hP hD hS => ?_)
              refine lv_goto (tgt := 50) hx hb d_Mo_run_107 (by decide) ?_
              have ew : u3 (u3 τ 5 0 0 (nI q9)) 19 0 q9 (((u3 τ 5 0 0 (nI q9)) 19 0 q9) - 1) = u3 (u3 τ 5 0 0 (nI q9)) 19 0 q9 (τ 19 0 q9 - 1) := by rw [u3_c (by decide)]
              rw [ew] at hP hD
              clear ew
              exact ihq _ hd (by omega) (mo_J_of hJ (fun c hc => by rw [u3_c (by omega), u3_c (by omega)]) (by rw [u3_c (by decide), u3_s])) heq _ _ hP hD hS ls (lv_sub hl [0, 1, 2] rfl)
            · exact absurd (by rw [u3_s]; exact nI_pos' (by omega)) c21
  refine lv_aload_n hx hb d_Mo_run_0 rfl (lv_at hl 0 rfl) ?_
  refine lv_iload_n hx hb d_Mo_run_1 rfl (lv_at hl 1 rfl) ?_
  refine lv_iconst (v := 0) hx hb d_Mo_run_2 (by decide) ?_
  refine lv_ldc (v := 100000) hx hb F.2.2.2.1 (F.2.2.2.2 (.constant RMo 121 (100000)) (List.mem_cons_of_mem _ (tt4 30 rfl rfl))) d_Mo_run_3 ?_
  refine x_Mo_in F (tt3 227 rfl rfl) ⟨Nat.le_of_ble_eq_true rfl, Nat.le_of_ble_eq_true rfl⟩ hK hP hl.1 (Nat.le_of_ble_eq_true rfl) ⟨Nat.zero_le _, Nat.zero_le _⟩ d_Mo_run_5 ?_
  refine lv_iconst (v := 1) hx hb d_Mo_run_8 (by decide) ?_
  refine x_Mo_goes F (tt3 230 rfl rfl) ⟨Nat.le_of_ble_eq_true rfl, Nat.le_of_ble_eq_true rfl⟩ hK hP hD hS hA hl.1 (Nat.le_of_ble_eq_true rfl) ⟨Nat.zero_le _, Nat.zero_le _⟩ d_Mo_run_9 (fun H locs hP hD hS => ?_)
  have ew : u3 σ 0 0 0 (mo_g (mo_in x 0 100000) 1) = u3 σ 0 0 0 0 := by rw [h1]; rfl
  rw [ew] at hP hD
  clear ew
  refine lv_if_ne (tgt := 17) hx hb d_Mo_run_12 (by decide) (fun c22 => ?_) (fun c22 => ?_)
  · refine lv_iload_n hx hb d_Mo_run_17 rfl (lv_at hl 1 rfl) ?_
    refine lv_istore_n (lv' := [(2, .int x), (0, .ref (ad 0)), (1, .int x)]) hx hb d_Mo_run_18 rfl hl (by decide) rfl (fun ls hl => ?_)
    refine lv_aload_n hx hb d_Mo_run_19 rfl (lv_at hl 1 rfl) ?_
    refine gf_Mo_ended F hK hP d_Mo_run_20 ?_
    refine lv_if_ne (tgt := 50) hx hb d_Mo_run_23 (by decide) (fun c23 => ?_) (fun c23 => ?_)
    · exact absurd (by rw [u3_c (by decide)]; exact he) c23
    · refine lv_aload_n hx hb d_Mo_run_26 rfl (lv_at hl 1 rfl) ?_
      refine gf_Mo_columns F hK hP d_Mo_run_27 ?_
      refine lv_if_ne (tgt := 50) hx hb d_Mo_run_30 (by decide) (fun c24 => ?_) (fun c24 => ?_)
      · have hl : lv_has ls 3 [(2, .int (nI f)), (0, .ref (ad 0)), (1, .int x)] := by rw [← hf]; exact (lv_sub hl [0, 1, 2] rfl)
        exact lp f q _ hf9 hqn ⟨by rw [u3_c (by decide)]; exact hn, by rw [u3_c (by decide)]; exact h_r, by rw [u3_c (by decide)]; exact h_u, mo_ok_of (u3_c (by decide)) (u3_c (by decide)) hok, by rw [u3_c (by decide)]; exact he, by rw [u3_c (by decide)]; exact hq⟩ rfl _ _ hP hD hS ls hl
      · exact absurd c24 (by rw [u3_c (by decide), hn]; exact nI_ne0 (by omega) (by omega))
  · exact absurd c22 (by rw [h1]; decide)
theorem x_Mo_run_n {σ : oS} {r : Nat} {u : Nat} (h_r : σ 2 0 0 = nI r) (h_u : σ 3 0 0 = nI u) (hr4 : r ≤ 4) (hu4 : u ≤ 4) {n : Nat} (hn : σ 1 0 0 = nI n) (hn9 : n ≤ 5) (hok : mo_ok σ u) {x : Int32} {f : Nat} (hf : x = nI f) (hf9 : f < 100001) (h1 : mo_in x 0 100000 = 1) (he : σ 6 0 0 = 0) {q : Nat} (hq : σ 5 0 0 = nI q) (hqn : q < n) (F : CallFix p m c cc nL s args (cw :: tt) own) (hG : Cond.methodLink own index y_Mo_run ∈ tt) (hR : 3 + 1 ≤ R.frames ∧ 8 + (3 + 11) + 72 ≤ R.locals) (hK : va_K D vwCl (mt cI cZ) s) (hP : va_P D vwCl (mw cI cZ ad σ) H) (hD : va_D A (mw cI cZ ad σ)) (hS : va_S A H0 H locs) (hA : ∀ q, H0.size ≤ q → A q) (hsz : ls.size = nL) (hW : (rest.map fun v => v.category).sum ≤ 8) (hcs : cells ≤ R.cells ∧ slots ≤ R.slots) (hdg : decode cc pc = .ok (.invokevirtual index, 3)) (kk : ∀ (H1 : Heap) (locs1 : List Loc), va_P D vwCl (mw cI cZ ad ((mo_R n r u f q (u3 σ 0 0 0 0)).1)) H1 → va_D A (mw cI cZ ad ((mo_R n r u f q (u3 σ 0 0 0 0)).1)) → va_S A H0 H1 locs1 → W p l e R s m args below meth c H1 locs1 cells slots Q (F0 m (pc + 3) ls (.int (mo_R n r u f q (u3 σ 0 0 0 0)).2 :: rest))) : W p l e R s m args below meth c H locs cells slots Q (F0 m pc ls (.int x :: .ref (ad 0) :: rest)) :=
  ok_VM (As := [.int x]) F (c_Mo_run_n σ h_r h_u hr4 hu4 hn hn9 hok hf hf9 h1 he hq hqn) 1 (tt_V hG i_Mo_run l_Mo_run in9_Mo k_Mo_run) rfl ⟨rfl, rfl⟩ (by decide +kernel) hR hK hP hD hS hA (0) 6 rfl rfl mw_0 rfl hsz rfl hW hcs hdg kk
end
end
section
-- the reference's calls
def mo_mt (σ : oS) (x y : Int32) (k : Nat) : Prop := (σ 15 0 k = x ∧ σ 16 0 k = y) ∨ (σ 15 0 k = y ∧ σ 16 0 k = x)
noncomputable def mo_fc (σ : oS) (x y : Int32) : Nat → Int32
  | 0 => if 4 ≤ σ 3 0 0 then 0 else 1
  | k + 1 => @ite _ (mo_mt σ x y k) (Classical.propDecidable _) 0 (mo_fc σ x y k)
theorem mo_fc_b {σ : oS} {x y : Int32} {k : Nat} : mo_fc σ x y k = 0 ∨ mo_fc σ x y k = 1 := by
  induction k with
  | zero =>
    unfold mo_fc
    split
    · exact Or.inl rfl
    · exact Or.inr rfl
  | succ k ih =>
    unfold mo_fc
    split
    · exact Or.inl rfl
    · exact ih
def mo_wv (σ : oS) (r k : Nat) (y : Int32) : Int32 := if mo_k σ r k = 0 then mo_in y 0 1000000 else mo_in y (-1000000) 0
theorem mo_in_01 {x a b : Int32} : mo_in x a b = 0 ∨ mo_in x a b = 1 := by
  unfold mo_in
  split
  · exact Or.inl rfl
  · split
    · exact Or.inl rfl
    · exact Or.inr rfl
section
variable {l : Launch} {D : va_G} {cI cZ : ClassId} {ad : Nat → Nat}
variable {p : Program} {e : Env} {R : Room} {s : State} {m : MethodId} {args : Array Value} {below : List Frame} {meth : Method} {c : Code} {H : Heap} {locs : List Loc} {cells slots : Nat} {Q : State → Prop} {cc : ByteArray} {pc nL index : Nat} {ls : Array Slot} {rest : List Value} {A : Nat → Prop} {H0 : Heap} {cw : Cond} {own : String}
set_option maxHeartbeats 4000000 in
set_option maxRecDepth 100000 in
theorem c_Mo_column (σ : oS) {n : Nat} (hn : σ 1 0 0 = nI n) (hn5 : n < 5) {x : Int32} {y : Int32} (h1 : mo_in x (-1000) 1000 = 1) (h2 : mo_in y 0 20 = 1) : ok_MM l y_Mo_column (Cond.code y_Mo_column b_Mo_column 3 (some .int) :: tt) { frames := 1, cells := 0, slots := 0, locals := 22 } D vwCl (mt cI cZ) (mw cI cZ ad σ) (mw cI cZ ad (mo_a (u3 (u3 (u3 (u3 σ 0 0 0 0) 10 0 n x) 11 0 n y) 1 0 0 (nI (n + 1))))) [.ref (ad 0), .int x, .int y] (some (.int (nI n))) := by
  refine ok_startM (cc := b_Mo_column) (own := RMo) (maxL := 3) (ret := (some .int)) (by decide +kernel) rfl rfl (Nat.le_of_ble_eq_true rfl) ?_
  intro p e s m below meth c A F hr hlk hA hP hK hD hS ls hl
  have hl : lv_has ls 3 [(0, .ref (ad 0)), (1, .int x), (2, .int y)] := hl
  have hx := F.1
  have hb := F.2.1
  refine lv_aload_n hx hb d_Mo_column_0 rfl (lv_at hl 0 rfl) ?_
  refine lv_iload_n hx hb d_Mo_column_1 rfl (lv_at hl 1 rfl) ?_
  refine lv_sipush (v := -1000) hx hb d_Mo_column_2 (by decide) ?_
  refine lv_sipush (v := 1000) hx hb d_Mo_column_5 (by decide) ?_
  refine x_Mo_in F (tt3 227 rfl rfl) ⟨Nat.le_of_ble_eq_true rfl, Nat.le_of_ble_eq_true rfl⟩ hK hP hl.1 (Nat.le_of_ble_eq_true rfl) ⟨Nat.zero_le _, Nat.zero_le _⟩ d_Mo_column_8 ?_
  refine lv_if_eq (tgt := 28) hx hb d_Mo_column_11 (by decide) (fun c1 => ?_) (fun c1 => ?_)
  · first | exact absurd c1 (by rw [h1]; decide) | exact absurd c1 (by rw [h2]; decide)
  · refine lv_iload_n hx hb d_Mo_column_14 rfl (lv_at hl 2 rfl) ?_
    refine lv_iconst (v := 0) hx hb d_Mo_column_15 (by decide) ?_
    refine lv_bipush (v := 20) hx hb d_Mo_column_16 (by decide) ?_
    refine x_Mo_in F (tt3 227 rfl rfl) ⟨Nat.le_of_ble_eq_true rfl, Nat.le_of_ble_eq_true rfl⟩ hK hP hl.1 (Nat.le_of_ble_eq_true rfl) ⟨Nat.zero_le _, Nat.zero_le _⟩ d_Mo_column_18 ?_
    refine lv_if_eq (tgt := 28) hx hb d_Mo_column_21 (by decide) (fun c2 => ?_) (fun c2 => ?_)
    · first | exact absurd c2 (by rw [h1]; decide) | exact absurd c2 (by rw [h2]; decide)
    · refine lv_iconst (v := 1) hx hb d_Mo_column_24 (by decide) ?_
      refine lv_goto (tgt := 29) hx hb d_Mo_column_25 (by decide) ?_
      refine lv_aload_n hx hb d_Mo_column_29 rfl (lv_at hl 0 rfl) ?_
      refine gf_Mo_columns F hK hP d_Mo_column_30 ?_
      refine lv_iconst (v := 5) hx hb d_Mo_column_33 (by decide) ?_
      refine lv_icmp_ge (tgt := 41) hx hb d_Mo_column_34 (by decide) (fun c3 => ?_) (fun c3 => ?_)
      · exact absurd c3 (by rw [hn, show (5 : Int32) = nI 5 from rfl, nI_leI (by omega) (by omega)]; omega)
      · refine lv_iconst (v := 1) hx hb d_Mo_column_37 (by decide) ?_
        refine lv_goto (tgt := 42) hx hb d_Mo_column_38 (by decide) ?_
        refine x_Mo_goes F (tt3 230 rfl rfl) ⟨Nat.le_of_ble_eq_true rfl, Nat.le_of_ble_eq_true rfl⟩ hK hP hD hS hA hl.1 (Nat.le_of_ble_eq_true rfl) ⟨Nat.zero_le _, Nat.zero_le _⟩ d_Mo_column_42 (fun H locs hP hD hS => ?_)
        have ew : u3 σ 0 0 0 (mo_g 1 1) = u3 σ 0 0 0 0 := by simp [mo_g]
        rw [ew] at hP hD
        clear ew
        refine lv_if_ne (tgt := 50) hx hb d_Mo_column_45 (by decide) (fun c4 => ?_) (fun c4 => ?_)
        · refine lv_aload_n hx hb d_Mo_column_50 rfl (lv_at hl 0 rfl) ?_
          refine gf_Mo_worth F hK hP d_Mo_column_51 ?_
          refine lv_aload_n hx hb d_Mo_column_54 rfl (lv_at hl 0 rfl) ?_
          refine gf_Mo_columns F hK hP d_Mo_column_55 ?_
          refine lv_iload_n hx hb d_Mo_column_58 rfl (lv_at hl 1 rfl) ?_
          refine sm_10 (j := n) F hK hP hD hS (by rw [u3_c (by decide)]; exact hn) (by omega) d_Mo_column_59 (fun H locs hP hD hS => ?_)
          refine lv_aload_n hx hb d_Mo_column_60 rfl (lv_at hl 0 rfl) ?_
          refine gf_Mo_top F hK hP d_Mo_column_61 ?_
          refine lv_aload_n hx hb d_Mo_column_64 rfl (lv_at hl 0 rfl) ?_
          refine gf_Mo_columns F hK hP d_Mo_column_65 ?_
          refine lv_iload_n hx hb d_Mo_column_68 rfl (lv_at hl 2 rfl) ?_
          refine sm_11 (j := n) F hK hP hD hS (by rw [u3_c (by decide), u3_c (by decide)]; exact hn) (by omega) d_Mo_column_69 (fun H locs hP hD hS => ?_)
          refine lv_aload_n hx hb d_Mo_column_70 rfl (lv_at hl 0 rfl) ?_
          refine lv_dup hx hb d_Mo_column_71 rfl ?_
          refine gf_Mo_columns F hK hP d_Mo_column_72 ?_
          refine lv_iconst (v := 1) hx hb d_Mo_column_75 (by decide) ?_
          refine lv_iadd hx hb d_Mo_column_76 ?_
          refine pf_Mo_columns F hK hP hD hS d_Mo_column_77 (fun H locs hP hD hS => ?_)
          have ew : u3 (u3 (u3 (u3 σ 0 0 0 0) 10 0 n x) 11 0 n y) 1 0 0 (((u3 (u3 (u3 σ 0 0 0 0) 10 0 n x) 11 0 n y) 1 0 0) + 1) = u3 (u3 (u3 (u3 σ 0 0 0 0) 10 0 n x) 11 0 n y) 1 0 0 (nI (n + 1)) := by congr 1; simp [u3_at, hn, nI_1]
          rw [ew] at hP hD
          clear ew
          refine lv_aload_n hx hb d_Mo_column_80 rfl (lv_at hl 0 rfl) ?_
          refine x_Mo_anew F (tt3 234 rfl rfl) ⟨Nat.le_of_ble_eq_true rfl, Nat.le_of_ble_eq_true rfl⟩ hK hP hD hS hA hl.1 (Nat.le_of_ble_eq_true rfl) ⟨Nat.zero_le _, Nat.zero_le _⟩ d_Mo_column_81 (fun H locs hP hD hS => ?_)
          refine lv_aload_n hx hb d_Mo_column_84 rfl (lv_at hl 0 rfl) ?_
          refine gf_Mo_columns F hK hP d_Mo_column_85 ?_
          refine lv_iconst (v := 1) hx hb d_Mo_column_88 (by decide) ?_
          refine lv_isub hx hb d_Mo_column_89 ?_
          exact ok_iretM F hr hlk hP hD hS (by simp [mo_a, u3_at]; exact nI_pred n) d_Mo_column_90
        · exact absurd c4 (by simp [mo_g])
theorem x_Mo_column {σ : oS} {n : Nat} (hn : σ 1 0 0 = nI n) (hn5 : n < 5) {x : Int32} {y : Int32} (h1 : mo_in x (-1000) 1000 = 1) (h2 : mo_in y 0 20 = 1) (F : CallFix p m c cc nL s args (cw :: tt) own) (hG : Cond.methodLink own index y_Mo_column ∈ tt) (hR : 1 + 1 ≤ R.frames ∧ 8 + (3 + 11) + 22 ≤ R.locals) (hK : va_K D vwCl (mt cI cZ) s) (hP : va_P D vwCl (mw cI cZ ad σ) H) (hD : va_D A (mw cI cZ ad σ)) (hS : va_S A H0 H locs) (hA : ∀ q, H0.size ≤ q → A q) (hsz : ls.size = nL) (hW : (rest.map fun v => v.category).sum ≤ 8) (hcs : cells ≤ R.cells ∧ slots ≤ R.slots) (hdg : decode cc pc = .ok (.invokevirtual index, 3)) (kk : ∀ (H1 : Heap) (locs1 : List Loc), va_P D vwCl (mw cI cZ ad (mo_a (u3 (u3 (u3 (u3 σ 0 0 0 0) 10 0 n x) 11 0 n y) 1 0 0 (nI (n + 1))))) H1 → va_D A (mw cI cZ ad (mo_a (u3 (u3 (u3 (u3 σ 0 0 0 0) 10 0 n x) 11 0 n y) 1 0 0 (nI (n + 1))))) → va_S A H0 H1 locs1 → W p l e R s m args below meth c H1 locs1 cells slots Q (F0 m (pc + 3) ls (.int (nI n) :: rest))) : W p l e R s m args below meth c H locs cells slots Q (F0 m pc ls (.int y :: .int x :: .ref (ad 0) :: rest)) :=
  ok_VM (As := [.int x, .int y]) F (c_Mo_column σ hn hn5 h1 h2) 2 (tt_V hG i_Mo_column l_Mo_column in9_Mo k_Mo_column) rfl ⟨rfl, rfl⟩ (by decide +kernel) hR hK hP hD hS hA (0) 6 rfl rfl mw_0 rfl hsz rfl hW hcs hdg kk
set_option maxHeartbeats 4000000 in
set_option maxRecDepth 100000 in
theorem c_Mo_column_1 (σ : oS) {x : Int32} {y : Int32} (hone : mo_in x (-1000) 1000 = 0 ∨ mo_in y 0 20 = 0) : ok_MM l y_Mo_column (Cond.code y_Mo_column b_Mo_column 3 (some .int) :: tt) { frames := 1, cells := 0, slots := 0, locals := 22 } D vwCl (mt cI cZ) (mw cI cZ ad σ) (mw cI cZ ad (u3 σ 0 0 0 1)) [.ref (ad 0), .int x, .int y] (some (.int 0)) := by
  refine ok_startM (cc := b_Mo_column) (own := RMo) (maxL := 3) (ret := (some .int)) (by decide +kernel) rfl rfl (Nat.le_of_ble_eq_true rfl) ?_
  intro p e s m below meth c A F hr hlk hA hP hK hD hS ls hl
  have hl : lv_has ls 3 [(0, .ref (ad 0)), (1, .int x), (2, .int y)] := hl
  have hx := F.1
  have hb := F.2.1
  refine lv_aload_n hx hb d_Mo_column_0 rfl (lv_at hl 0 rfl) ?_
  refine lv_iload_n hx hb d_Mo_column_1 rfl (lv_at hl 1 rfl) ?_
  refine lv_sipush (v := -1000) hx hb d_Mo_column_2 (by decide) ?_
  refine lv_sipush (v := 1000) hx hb d_Mo_column_5 (by decide) ?_
  refine x_Mo_in F (tt3 227 rfl rfl) ⟨Nat.le_of_ble_eq_true rfl, Nat.le_of_ble_eq_true rfl⟩ hK hP hl.1 (Nat.le_of_ble_eq_true rfl) ⟨Nat.zero_le _, Nat.zero_le _⟩ d_Mo_column_8 ?_
  refine lv_if_eq (tgt := 28) hx hb d_Mo_column_11 (by decide) (fun c1 => ?_) (fun c1 => ?_)
  · refine lv_iconst (v := 0) hx hb d_Mo_column_28 (by decide) ?_
    refine lv_aload_n hx hb d_Mo_column_29 rfl (lv_at hl 0 rfl) ?_
    refine gf_Mo_columns F hK hP d_Mo_column_30 ?_
    refine lv_iconst (v := 5) hx hb d_Mo_column_33 (by decide) ?_
    refine lv_icmp_ge (tgt := 41) hx hb d_Mo_column_34 (by decide) (fun c2 => ?_) (fun c2 => ?_)
    · refine lv_iconst (v := 0) hx hb d_Mo_column_41 (by decide) ?_
      refine x_Mo_goes F (tt3 230 rfl rfl) ⟨Nat.le_of_ble_eq_true rfl, Nat.le_of_ble_eq_true rfl⟩ hK hP hD hS hA hl.1 (Nat.le_of_ble_eq_true rfl) ⟨Nat.zero_le _, Nat.zero_le _⟩ d_Mo_column_42 (fun H locs hP hD hS => ?_)
      have ew : u3 σ 0 0 0 (mo_g 0 0) = u3 σ 0 0 0 1 := by simp [mo_g]
      rw [ew] at hP hD
      clear ew
      refine lv_if_ne (tgt := 50) hx hb d_Mo_column_45 (by decide) (fun c3 => ?_) (fun c3 => ?_)
      · exact absurd (by simp [mo_g]) c3
      · refine lv_iconst (v := 0) hx hb d_Mo_column_48 (by decide) ?_
        exact ok_iretM F hr hlk hP hD hS (rfl) d_Mo_column_49
    · refine lv_iconst (v := 1) hx hb d_Mo_column_37 (by decide) ?_
      refine lv_goto (tgt := 42) hx hb d_Mo_column_38 (by decide) ?_
      refine x_Mo_goes F (tt3 230 rfl rfl) ⟨Nat.le_of_ble_eq_true rfl, Nat.le_of_ble_eq_true rfl⟩ hK hP hD hS hA hl.1 (Nat.le_of_ble_eq_true rfl) ⟨Nat.zero_le _, Nat.zero_le _⟩ d_Mo_column_42 (fun H locs hP hD hS => ?_)
      have ew : u3 σ 0 0 0 (mo_g 0 1) = u3 σ 0 0 0 1 := by simp [mo_g]
      rw [ew] at hP hD
      clear ew
      refine lv_if_ne (tgt := 50) hx hb d_Mo_column_45 (by decide) (fun c4 => ?_) (fun c4 => ?_)
      · exact absurd (by simp [mo_g]) c4
      · refine lv_iconst (v := 0) hx hb d_Mo_column_48 (by decide) ?_
        exact ok_iretM F hr hlk hP hD hS (rfl) d_Mo_column_49
  · refine lv_iload_n hx hb d_Mo_column_14 rfl (lv_at hl 2 rfl) ?_
    refine lv_iconst (v := 0) hx hb d_Mo_column_15 (by decide) ?_
    refine lv_bipush (v := 20) hx hb d_Mo_column_16 (by decide) ?_
    refine x_Mo_in F (tt3 227 rfl rfl) ⟨Nat.le_of_ble_eq_true rfl, Nat.le_of_ble_eq_true rfl⟩ hK hP hl.1 (Nat.le_of_ble_eq_true rfl) ⟨Nat.zero_le _, Nat.zero_le _⟩ d_Mo_column_18 ?_
    refine lv_if_eq (tgt := 28) hx hb d_Mo_column_21 (by decide) (fun c5 => ?_) (fun c5 => ?_)
    · refine lv_iconst (v := 0) hx hb d_Mo_column_28 (by decide) ?_
      refine lv_aload_n hx hb d_Mo_column_29 rfl (lv_at hl 0 rfl) ?_
      refine gf_Mo_columns F hK hP d_Mo_column_30 ?_
      refine lv_iconst (v := 5) hx hb d_Mo_column_33 (by decide) ?_
      refine lv_icmp_ge (tgt := 41) hx hb d_Mo_column_34 (by decide) (fun c6 => ?_) (fun c6 => ?_)
      · refine lv_iconst (v := 0) hx hb d_Mo_column_41 (by decide) ?_
        refine x_Mo_goes F (tt3 230 rfl rfl) ⟨Nat.le_of_ble_eq_true rfl, Nat.le_of_ble_eq_true rfl⟩ hK hP hD hS hA hl.1 (Nat.le_of_ble_eq_true rfl) ⟨Nat.zero_le _, Nat.zero_le _⟩ d_Mo_column_42 (fun H locs hP hD hS => ?_)
        have ew : u3 σ 0 0 0 (mo_g 0 0) = u3 σ 0 0 0 1 := by simp [mo_g]
        rw [ew] at hP hD
        clear ew
        refine lv_if_ne (tgt := 50) hx hb d_Mo_column_45 (by decide) (fun c7 => ?_) (fun c7 => ?_)
        · exact absurd (by simp [mo_g]) c7
        · refine lv_iconst (v := 0) hx hb d_Mo_column_48 (by decide) ?_
          exact ok_iretM F hr hlk hP hD hS (rfl) d_Mo_column_49
      · refine lv_iconst (v := 1) hx hb d_Mo_column_37 (by decide) ?_
        refine lv_goto (tgt := 42) hx hb d_Mo_column_38 (by decide) ?_
        refine x_Mo_goes F (tt3 230 rfl rfl) ⟨Nat.le_of_ble_eq_true rfl, Nat.le_of_ble_eq_true rfl⟩ hK hP hD hS hA hl.1 (Nat.le_of_ble_eq_true rfl) ⟨Nat.zero_le _, Nat.zero_le _⟩ d_Mo_column_42 (fun H locs hP hD hS => ?_)
        have ew : u3 σ 0 0 0 (mo_g 0 1) = u3 σ 0 0 0 1 := by simp [mo_g]
        rw [ew] at hP hD
        clear ew
        refine lv_if_ne (tgt := 50) hx hb d_Mo_column_45 (by decide) (fun c8 => ?_) (fun c8 => ?_)
        · exact absurd (by simp [mo_g]) c8
        · refine lv_iconst (v := 0) hx hb d_Mo_column_48 (by decide) ?_
          exact ok_iretM F hr hlk hP hD hS (rfl) d_Mo_column_49
    · exact absurd hone (fun q => q.elim c1 c5)
theorem x_Mo_column_1 {σ : oS} {x : Int32} {y : Int32} (hone : mo_in x (-1000) 1000 = 0 ∨ mo_in y 0 20 = 0) (F : CallFix p m c cc nL s args (cw :: tt) own) (hG : Cond.methodLink own index y_Mo_column ∈ tt) (hR : 1 + 1 ≤ R.frames ∧ 8 + (3 + 11) + 22 ≤ R.locals) (hK : va_K D vwCl (mt cI cZ) s) (hP : va_P D vwCl (mw cI cZ ad σ) H) (hD : va_D A (mw cI cZ ad σ)) (hS : va_S A H0 H locs) (hA : ∀ q, H0.size ≤ q → A q) (hsz : ls.size = nL) (hW : (rest.map fun v => v.category).sum ≤ 8) (hcs : cells ≤ R.cells ∧ slots ≤ R.slots) (hdg : decode cc pc = .ok (.invokevirtual index, 3)) (kk : ∀ (H1 : Heap) (locs1 : List Loc), va_P D vwCl (mw cI cZ ad (u3 σ 0 0 0 1)) H1 → va_D A (mw cI cZ ad (u3 σ 0 0 0 1)) → va_S A H0 H1 locs1 → W p l e R s m args below meth c H1 locs1 cells slots Q (F0 m (pc + 3) ls (.int 0 :: rest))) : W p l e R s m args below meth c H locs cells slots Q (F0 m pc ls (.int y :: .int x :: .ref (ad 0) :: rest)) :=
  ok_VM (As := [.int x, .int y]) F (c_Mo_column_1 σ hone) 2 (tt_V hG i_Mo_column l_Mo_column in9_Mo k_Mo_column) rfl ⟨rfl, rfl⟩ (by decide +kernel) hR hK hP hD hS hA (0) 6 rfl rfl mw_0 rfl hsz rfl hW hcs hdg kk
set_option maxHeartbeats 4000000 in
set_option maxRecDepth 100000 in
theorem c_Mo_column_2 (σ : oS) (hn : σ 1 0 0 = nI 5) {x : Int32} {y : Int32} (h1 : mo_in x (-1000) 1000 = 1) (h2 : mo_in y 0 20 = 1) : ok_MM l y_Mo_column (Cond.code y_Mo_column b_Mo_column 3 (some .int) :: tt) { frames := 1, cells := 0, slots := 0, locals := 22 } D vwCl (mt cI cZ) (mw cI cZ ad σ) (mw cI cZ ad (u3 σ 0 0 0 2)) [.ref (ad 0), .int x, .int y] (some (.int 0)) := by
  refine ok_startM (cc := b_Mo_column) (own := RMo) (maxL := 3) (ret := (some .int)) (by decide +kernel) rfl rfl (Nat.le_of_ble_eq_true rfl) ?_
  intro p e s m below meth c A F hr hlk hA hP hK hD hS ls hl
  have hl : lv_has ls 3 [(0, .ref (ad 0)), (1, .int x), (2, .int y)] := hl
  have hx := F.1
  have hb := F.2.1
  refine lv_aload_n hx hb d_Mo_column_0 rfl (lv_at hl 0 rfl) ?_
  refine lv_iload_n hx hb d_Mo_column_1 rfl (lv_at hl 1 rfl) ?_
  refine lv_sipush (v := -1000) hx hb d_Mo_column_2 (by decide) ?_
  refine lv_sipush (v := 1000) hx hb d_Mo_column_5 (by decide) ?_
  refine x_Mo_in F (tt3 227 rfl rfl) ⟨Nat.le_of_ble_eq_true rfl, Nat.le_of_ble_eq_true rfl⟩ hK hP hl.1 (Nat.le_of_ble_eq_true rfl) ⟨Nat.zero_le _, Nat.zero_le _⟩ d_Mo_column_8 ?_
  refine lv_if_eq (tgt := 28) hx hb d_Mo_column_11 (by decide) (fun c1 => ?_) (fun c1 => ?_)
  · first | exact absurd c1 (by rw [h1]; decide) | exact absurd c1 (by rw [h2]; decide)
  · refine lv_iload_n hx hb d_Mo_column_14 rfl (lv_at hl 2 rfl) ?_
    refine lv_iconst (v := 0) hx hb d_Mo_column_15 (by decide) ?_
    refine lv_bipush (v := 20) hx hb d_Mo_column_16 (by decide) ?_
    refine x_Mo_in F (tt3 227 rfl rfl) ⟨Nat.le_of_ble_eq_true rfl, Nat.le_of_ble_eq_true rfl⟩ hK hP hl.1 (Nat.le_of_ble_eq_true rfl) ⟨Nat.zero_le _, Nat.zero_le _⟩ d_Mo_column_18 ?_
    refine lv_if_eq (tgt := 28) hx hb d_Mo_column_21 (by decide) (fun c2 => ?_) (fun c2 => ?_)
    · first | exact absurd c2 (by rw [h1]; decide) | exact absurd c2 (by rw [h2]; decide)
    · refine lv_iconst (v := 1) hx hb d_Mo_column_24 (by decide) ?_
      refine lv_goto (tgt := 29) hx hb d_Mo_column_25 (by decide) ?_
      refine lv_aload_n hx hb d_Mo_column_29 rfl (lv_at hl 0 rfl) ?_
      refine gf_Mo_columns F hK hP d_Mo_column_30 ?_
      refine lv_iconst (v := 5) hx hb d_Mo_column_33 (by decide) ?_
      refine lv_icmp_ge (tgt := 41) hx hb d_Mo_column_34 (by decide) (fun c3 => ?_) (fun c3 => ?_)
      · refine lv_iconst (v := 0) hx hb d_Mo_column_41 (by decide) ?_
        refine x_Mo_goes F (tt3 230 rfl rfl) ⟨Nat.le_of_ble_eq_true rfl, Nat.le_of_ble_eq_true rfl⟩ hK hP hD hS hA hl.1 (Nat.le_of_ble_eq_true rfl) ⟨Nat.zero_le _, Nat.zero_le _⟩ d_Mo_column_42 (fun H locs hP hD hS => ?_)
        have ew : u3 σ 0 0 0 (mo_g 1 0) = u3 σ 0 0 0 2 := by simp [mo_g]
        rw [ew] at hP hD
        clear ew
        refine lv_if_ne (tgt := 50) hx hb d_Mo_column_45 (by decide) (fun c4 => ?_) (fun c4 => ?_)
        · exact absurd (by simp [mo_g]) c4
        · refine lv_iconst (v := 0) hx hb d_Mo_column_48 (by decide) ?_
          exact ok_iretM F hr hlk hP hD hS (rfl) d_Mo_column_49
      · exact absurd (by rw [hn]; decide) c3
theorem x_Mo_column_2 {σ : oS} (hn : σ 1 0 0 = nI 5) {x : Int32} {y : Int32} (h1 : mo_in x (-1000) 1000 = 1) (h2 : mo_in y 0 20 = 1) (F : CallFix p m c cc nL s args (cw :: tt) own) (hG : Cond.methodLink own index y_Mo_column ∈ tt) (hR : 1 + 1 ≤ R.frames ∧ 8 + (3 + 11) + 22 ≤ R.locals) (hK : va_K D vwCl (mt cI cZ) s) (hP : va_P D vwCl (mw cI cZ ad σ) H) (hD : va_D A (mw cI cZ ad σ)) (hS : va_S A H0 H locs) (hA : ∀ q, H0.size ≤ q → A q) (hsz : ls.size = nL) (hW : (rest.map fun v => v.category).sum ≤ 8) (hcs : cells ≤ R.cells ∧ slots ≤ R.slots) (hdg : decode cc pc = .ok (.invokevirtual index, 3)) (kk : ∀ (H1 : Heap) (locs1 : List Loc), va_P D vwCl (mw cI cZ ad (u3 σ 0 0 0 2)) H1 → va_D A (mw cI cZ ad (u3 σ 0 0 0 2)) → va_S A H0 H1 locs1 → W p l e R s m args below meth c H1 locs1 cells slots Q (F0 m (pc + 3) ls (.int 0 :: rest))) : W p l e R s m args below meth c H locs cells slots Q (F0 m pc ls (.int y :: .int x :: .ref (ad 0) :: rest)) :=
  ok_VM (As := [.int x, .int y]) F (c_Mo_column_2 σ hn h1 h2) 2 (tt_V hG i_Mo_column l_Mo_column in9_Mo k_Mo_column) rfl ⟨rfl, rfl⟩ (by decide +kernel) hR hK hP hD hS hA (0) 6 rfl rfl mw_0 rfl hsz rfl hW hcs hdg kk
set_option maxHeartbeats 4000000 in
set_option maxRecDepth 100000 in
theorem c_Mo_row (σ : oS) {r : Nat} (h_r : σ 2 0 0 = nI r) (hr3 : r < 4) {x : Int32} {y : Int32} (h1 : mo_in x 0 1 = 1) (h2 : mo_in y (-10000) 10000 = 1) : ok_MM l y_Mo_row (Cond.code y_Mo_row b_Mo_row 3 (some .int) :: tt) { frames := 1, cells := 0, slots := 0, locals := 22 } D vwCl (mt cI cZ) (mw cI cZ ad σ) (mw cI cZ ad (mo_a (mo_z (u3 (u3 (u3 (u3 σ 0 0 0 0) 12 0 r x) 13 0 r y) 2 0 0 (nI (r + 1))) 8))) [.ref (ad 0), .int x, .int y] (some (.int (nI r))) := by
  refine ok_startM (cc := b_Mo_row) (own := RMo) (maxL := 3) (ret := (some .int)) (by decide +kernel) rfl rfl (Nat.le_of_ble_eq_true rfl) ?_
  intro p e s m below meth c A F hr hlk hA hP hK hD hS ls hl
  have hl : lv_has ls 3 [(0, .ref (ad 0)), (1, .int x), (2, .int y)] := hl
  have hx := F.1
  have hb := F.2.1
  refine lv_aload_n hx hb d_Mo_row_0 rfl (lv_at hl 0 rfl) ?_
  refine lv_iload_n hx hb d_Mo_row_1 rfl (lv_at hl 1 rfl) ?_
  refine lv_iconst (v := 0) hx hb d_Mo_row_2 (by decide) ?_
  refine lv_iconst (v := 1) hx hb d_Mo_row_3 (by decide) ?_
  refine x_Mo_in F (tt3 227 rfl rfl) ⟨Nat.le_of_ble_eq_true rfl, Nat.le_of_ble_eq_true rfl⟩ hK hP hl.1 (Nat.le_of_ble_eq_true rfl) ⟨Nat.zero_le _, Nat.zero_le _⟩ d_Mo_row_4 ?_
  refine lv_if_eq (tgt := 27) hx hb d_Mo_row_7 (by decide) (fun c1 => ?_) (fun c1 => ?_)
  · first | exact absurd c1 (by rw [h1]; decide) | exact absurd c1 (by rw [h2]; decide)
  · refine lv_iload_n hx hb d_Mo_row_10 rfl (lv_at hl 2 rfl) ?_
    refine lv_sipush (v := -10000) hx hb d_Mo_row_11 (by decide) ?_
    refine lv_sipush (v := 10000) hx hb d_Mo_row_14 (by decide) ?_
    refine x_Mo_in F (tt3 227 rfl rfl) ⟨Nat.le_of_ble_eq_true rfl, Nat.le_of_ble_eq_true rfl⟩ hK hP hl.1 (Nat.le_of_ble_eq_true rfl) ⟨Nat.zero_le _, Nat.zero_le _⟩ d_Mo_row_17 ?_
    refine lv_if_eq (tgt := 27) hx hb d_Mo_row_20 (by decide) (fun c2 => ?_) (fun c2 => ?_)
    · first | exact absurd c2 (by rw [h1]; decide) | exact absurd c2 (by rw [h2]; decide)
    · refine lv_iconst (v := 1) hx hb d_Mo_row_23 (by decide) ?_
      refine lv_goto (tgt := 28) hx hb d_Mo_row_24 (by decide) ?_
      refine lv_aload_n hx hb d_Mo_row_28 rfl (lv_at hl 0 rfl) ?_
      refine gf_Mo_rows F hK hP d_Mo_row_29 ?_
      refine lv_iconst (v := 4) hx hb d_Mo_row_32 (by decide) ?_
      refine lv_icmp_ge (tgt := 40) hx hb d_Mo_row_33 (by decide) (fun c3 => ?_) (fun c3 => ?_)
      · exact absurd c3 (by rw [h_r, show (4 : Int32) = nI 4 from rfl, nI_leI (by omega) (by omega)]; omega)
      · refine lv_iconst (v := 1) hx hb d_Mo_row_36 (by decide) ?_
        refine lv_goto (tgt := 41) hx hb d_Mo_row_37 (by decide) ?_
        refine x_Mo_goes F (tt3 230 rfl rfl) ⟨Nat.le_of_ble_eq_true rfl, Nat.le_of_ble_eq_true rfl⟩ hK hP hD hS hA hl.1 (Nat.le_of_ble_eq_true rfl) ⟨Nat.zero_le _, Nat.zero_le _⟩ d_Mo_row_41 (fun H locs hP hD hS => ?_)
        have ew : u3 σ 0 0 0 (mo_g 1 1) = u3 σ 0 0 0 0 := by simp [mo_g]
        rw [ew] at hP hD
        clear ew
        refine lv_if_ne (tgt := 49) hx hb d_Mo_row_44 (by decide) (fun c4 => ?_) (fun c4 => ?_)
        · refine lv_aload_n hx hb d_Mo_row_49 rfl (lv_at hl 0 rfl) ?_
          refine gf_Mo_kind F hK hP d_Mo_row_50 ?_
          refine lv_aload_n hx hb d_Mo_row_53 rfl (lv_at hl 0 rfl) ?_
          refine gf_Mo_rows F hK hP d_Mo_row_54 ?_
          refine lv_iload_n hx hb d_Mo_row_57 rfl (lv_at hl 1 rfl) ?_
          refine sm_12 (j := r) F hK hP hD hS (by rw [u3_c (by decide)]; exact h_r) (by omega) d_Mo_row_58 (fun H locs hP hD hS => ?_)
          refine lv_aload_n hx hb d_Mo_row_59 rfl (lv_at hl 0 rfl) ?_
          refine gf_Mo_right F hK hP d_Mo_row_60 ?_
          refine lv_aload_n hx hb d_Mo_row_63 rfl (lv_at hl 0 rfl) ?_
          refine gf_Mo_rows F hK hP d_Mo_row_64 ?_
          refine lv_iload_n hx hb d_Mo_row_67 rfl (lv_at hl 2 rfl) ?_
          refine sm_13 (j := r) F hK hP hD hS (by rw [u3_c (by decide), u3_c (by decide)]; exact h_r) (by omega) d_Mo_row_68 (fun H locs hP hD hS => ?_)
          refine lv_aload_n hx hb d_Mo_row_69 rfl (lv_at hl 0 rfl) ?_
          refine lv_dup hx hb d_Mo_row_70 rfl ?_
          refine gf_Mo_rows F hK hP d_Mo_row_71 ?_
          refine lv_iconst (v := 1) hx hb d_Mo_row_74 (by decide) ?_
          refine lv_iadd hx hb d_Mo_row_75 ?_
          refine pf_Mo_rows F hK hP hD hS d_Mo_row_76 (fun H locs hP hD hS => ?_)
          have ew : u3 (u3 (u3 (u3 σ 0 0 0 0) 12 0 r x) 13 0 r y) 2 0 0 (((u3 (u3 (u3 σ 0 0 0 0) 12 0 r x) 13 0 r y) 2 0 0) + 1) = u3 (u3 (u3 (u3 σ 0 0 0 0) 12 0 r x) 13 0 r y) 2 0 0 (nI (r + 1)) := by congr 1; simp [u3_at, h_r, nI_1]
          rw [ew] at hP hD
          clear ew
          refine lv_aload_n hx hb d_Mo_row_79 rfl (lv_at hl 0 rfl) ?_
          refine x_Mo_noMultipliers F (tt4 2 rfl rfl) ⟨Nat.le_of_ble_eq_true rfl, Nat.le_of_ble_eq_true rfl⟩ hK hP hD hS hA hl.1 (Nat.le_of_ble_eq_true rfl) ⟨Nat.zero_le _, Nat.zero_le _⟩ d_Mo_row_80 (fun H locs hP hD hS => ?_)
          refine lv_aload_n hx hb d_Mo_row_83 rfl (lv_at hl 0 rfl) ?_
          refine x_Mo_anew F (tt3 234 rfl rfl) ⟨Nat.le_of_ble_eq_true rfl, Nat.le_of_ble_eq_true rfl⟩ hK hP hD hS hA hl.1 (Nat.le_of_ble_eq_true rfl) ⟨Nat.zero_le _, Nat.zero_le _⟩ d_Mo_row_84 (fun H locs hP hD hS => ?_)
          refine lv_aload_n hx hb d_Mo_row_87 rfl (lv_at hl 0 rfl) ?_
          refine gf_Mo_rows F hK hP d_Mo_row_88 ?_
          refine lv_iconst (v := 1) hx hb d_Mo_row_91 (by decide) ?_
          refine lv_isub hx hb d_Mo_row_92 ?_
          exact ok_iretM F hr hlk hP hD hS (by simp [mo_a, u3_at, mo_z_c]; exact nI_pred r) d_Mo_row_93
        · exact absurd c4 (by simp [mo_g])
theorem x_Mo_row {σ : oS} {r : Nat} (h_r : σ 2 0 0 = nI r) (hr3 : r < 4) {x : Int32} {y : Int32} (h1 : mo_in x 0 1 = 1) (h2 : mo_in y (-10000) 10000 = 1) (F : CallFix p m c cc nL s args (cw :: tt) own) (hG : Cond.methodLink own index y_Mo_row ∈ tt) (hR : 1 + 1 ≤ R.frames ∧ 8 + (3 + 11) + 22 ≤ R.locals) (hK : va_K D vwCl (mt cI cZ) s) (hP : va_P D vwCl (mw cI cZ ad σ) H) (hD : va_D A (mw cI cZ ad σ)) (hS : va_S A H0 H locs) (hA : ∀ q, H0.size ≤ q → A q) (hsz : ls.size = nL) (hW : (rest.map fun v => v.category).sum ≤ 8) (hcs : cells ≤ R.cells ∧ slots ≤ R.slots) (hdg : decode cc pc = .ok (.invokevirtual index, 3)) (kk : ∀ (H1 : Heap) (locs1 : List Loc), va_P D vwCl (mw cI cZ ad (mo_a (mo_z (u3 (u3 (u3 (u3 σ 0 0 0 0) 12 0 r x) 13 0 r y) 2 0 0 (nI (r + 1))) 8))) H1 → va_D A (mw cI cZ ad (mo_a (mo_z (u3 (u3 (u3 (u3 σ 0 0 0 0) 12 0 r x) 13 0 r y) 2 0 0 (nI (r + 1))) 8))) → va_S A H0 H1 locs1 → W p l e R s m args below meth c H1 locs1 cells slots Q (F0 m (pc + 3) ls (.int (nI r) :: rest))) : W p l e R s m args below meth c H locs cells slots Q (F0 m pc ls (.int y :: .int x :: .ref (ad 0) :: rest)) :=
  ok_VM (As := [.int x, .int y]) F (c_Mo_row σ h_r hr3 h1 h2) 2 (tt_V hG i_Mo_row l_Mo_row in9_Mo k_Mo_row) rfl ⟨rfl, rfl⟩ (by decide +kernel) hR hK hP hD hS hA (0) 6 rfl rfl mw_0 rfl hsz rfl hW hcs hdg kk
set_option maxHeartbeats 4000000 in
set_option maxRecDepth 100000 in
theorem c_Mo_row_1 (σ : oS) {x : Int32} {y : Int32} (hone : mo_in x 0 1 = 0 ∨ mo_in y (-10000) 10000 = 0) : ok_MM l y_Mo_row (Cond.code y_Mo_row b_Mo_row 3 (some .int) :: tt) { frames := 1, cells := 0, slots := 0, locals := 22 } D vwCl (mt cI cZ) (mw cI cZ ad σ) (mw cI cZ ad (u3 σ 0 0 0 1)) [.ref (ad 0), .int x, .int y] (some (.int 0)) := by
  refine ok_startM (cc := b_Mo_row) (own := RMo) (maxL := 3) (ret := (some .int)) (by decide +kernel) rfl rfl (Nat.le_of_ble_eq_true rfl) ?_
  intro p e s m below meth c A F hr hlk hA hP hK hD hS ls hl
  have hl : lv_has ls 3 [(0, .ref (ad 0)), (1, .int x), (2, .int y)] := hl
  have hx := F.1
  have hb := F.2.1
  refine lv_aload_n hx hb d_Mo_row_0 rfl (lv_at hl 0 rfl) ?_
  refine lv_iload_n hx hb d_Mo_row_1 rfl (lv_at hl 1 rfl) ?_
  refine lv_iconst (v := 0) hx hb d_Mo_row_2 (by decide) ?_
  refine lv_iconst (v := 1) hx hb d_Mo_row_3 (by decide) ?_
  refine x_Mo_in F (tt3 227 rfl rfl) ⟨Nat.le_of_ble_eq_true rfl, Nat.le_of_ble_eq_true rfl⟩ hK hP hl.1 (Nat.le_of_ble_eq_true rfl) ⟨Nat.zero_le _, Nat.zero_le _⟩ d_Mo_row_4 ?_
  refine lv_if_eq (tgt := 27) hx hb d_Mo_row_7 (by decide) (fun c1 => ?_) (fun c1 => ?_)
  · refine lv_iconst (v := 0) hx hb d_Mo_row_27 (by decide) ?_
    refine lv_aload_n hx hb d_Mo_row_28 rfl (lv_at hl 0 rfl) ?_
    refine gf_Mo_rows F hK hP d_Mo_row_29 ?_
    refine lv_iconst (v := 4) hx hb d_Mo_row_32 (by decide) ?_
    refine lv_icmp_ge (tgt := 40) hx hb d_Mo_row_33 (by decide) (fun c2 => ?_) (fun c2 => ?_)
    · refine lv_iconst (v := 0) hx hb d_Mo_row_40 (by decide) ?_
      refine x_Mo_goes F (tt3 230 rfl rfl) ⟨Nat.le_of_ble_eq_true rfl, Nat.le_of_ble_eq_true rfl⟩ hK hP hD hS hA hl.1 (Nat.le_of_ble_eq_true rfl) ⟨Nat.zero_le _, Nat.zero_le _⟩ d_Mo_row_41 (fun H locs hP hD hS => ?_)
      have ew : u3 σ 0 0 0 (mo_g 0 0) = u3 σ 0 0 0 1 := by simp [mo_g]
      rw [ew] at hP hD
      clear ew
      refine lv_if_ne (tgt := 49) hx hb d_Mo_row_44 (by decide) (fun c3 => ?_) (fun c3 => ?_)
      · exact absurd (by simp [mo_g]) c3
      · refine lv_iconst (v := 0) hx hb d_Mo_row_47 (by decide) ?_
        exact ok_iretM F hr hlk hP hD hS (rfl) d_Mo_row_48
    · refine lv_iconst (v := 1) hx hb d_Mo_row_36 (by decide) ?_
      refine lv_goto (tgt := 41) hx hb d_Mo_row_37 (by decide) ?_
      refine x_Mo_goes F (tt3 230 rfl rfl) ⟨Nat.le_of_ble_eq_true rfl, Nat.le_of_ble_eq_true rfl⟩ hK hP hD hS hA hl.1 (Nat.le_of_ble_eq_true rfl) ⟨Nat.zero_le _, Nat.zero_le _⟩ d_Mo_row_41 (fun H locs hP hD hS => ?_)
      have ew : u3 σ 0 0 0 (mo_g 0 1) = u3 σ 0 0 0 1 := by simp [mo_g]
      rw [ew] at hP hD
      clear ew
      refine lv_if_ne (tgt := 49) hx hb d_Mo_row_44 (by decide) (fun c4 => ?_) (fun c4 => ?_)
      · exact absurd (by simp [mo_g]) c4
      · refine lv_iconst (v := 0) hx hb d_Mo_row_47 (by decide) ?_
        exact ok_iretM F hr hlk hP hD hS (rfl) d_Mo_row_48
  · refine lv_iload_n hx hb d_Mo_row_10 rfl (lv_at hl 2 rfl) ?_
    refine lv_sipush (v := -10000) hx hb d_Mo_row_11 (by decide) ?_
    refine lv_sipush (v := 10000) hx hb d_Mo_row_14 (by decide) ?_
    refine x_Mo_in F (tt3 227 rfl rfl) ⟨Nat.le_of_ble_eq_true rfl, Nat.le_of_ble_eq_true rfl⟩ hK hP hl.1 (Nat.le_of_ble_eq_true rfl) ⟨Nat.zero_le _, Nat.zero_le _⟩ d_Mo_row_17 ?_
    refine lv_if_eq (tgt := 27) hx hb d_Mo_row_20 (by decide) (fun c5 => ?_) (fun c5 => ?_)
    · refine lv_iconst (v := 0) hx hb d_Mo_row_27 (by decide) ?_
      refine lv_aload_n hx hb d_Mo_row_28 rfl (lv_at hl 0 rfl) ?_
      refine gf_Mo_rows F hK hP d_Mo_row_29 ?_
      refine lv_iconst (v := 4) hx hb d_Mo_row_32 (by decide) ?_
      refine lv_icmp_ge (tgt := 40) hx hb d_Mo_row_33 (by decide) (fun c6 => ?_) (fun c6 => ?_)
      · refine lv_iconst (v := 0) hx hb d_Mo_row_40 (by decide) ?_
        refine x_Mo_goes F (tt3 230 rfl rfl) ⟨Nat.le_of_ble_eq_true rfl, Nat.le_of_ble_eq_true rfl⟩ hK hP hD hS hA hl.1 (Nat.le_of_ble_eq_true rfl) ⟨Nat.zero_le _, Nat.zero_le _⟩ d_Mo_row_41 (fun H locs hP hD hS => ?_)
        have ew : u3 σ 0 0 0 (mo_g 0 0) = u3 σ 0 0 0 1 := by simp [mo_g]
        rw [ew] at hP hD
        clear ew
        refine lv_if_ne (tgt := 49) hx hb d_Mo_row_44 (by decide) (fun c7 => ?_) (fun c7 => ?_)
        · exact absurd (by simp [mo_g]) c7
        · refine lv_iconst (v := 0) hx hb d_Mo_row_47 (by decide) ?_
          exact ok_iretM F hr hlk hP hD hS (rfl) d_Mo_row_48
      · refine lv_iconst (v := 1) hx hb d_Mo_row_36 (by decide) ?_
        refine lv_goto (tgt := 41) hx hb d_Mo_row_37 (by decide) ?_
        refine x_Mo_goes F (tt3 230 rfl rfl) ⟨Nat.le_of_ble_eq_true rfl, Nat.le_of_ble_eq_true rfl⟩ hK hP hD hS hA hl.1 (Nat.le_of_ble_eq_true rfl) ⟨Nat.zero_le _, Nat.zero_le _⟩ d_Mo_row_41 (fun H locs hP hD hS => ?_)
        have ew : u3 σ 0 0 0 (mo_g 0 1) = u3 σ 0 0 0 1 := by simp [mo_g]
        rw [ew] at hP hD
        clear ew
        refine lv_if_ne (tgt := 49) hx hb d_Mo_row_44 (by decide) (fun c8 => ?_) (fun c8 => ?_)
        · exact absurd (by simp [mo_g]) c8
        · refine lv_iconst (v := 0) hx hb d_Mo_row_47 (by decide) ?_
          exact ok_iretM F hr hlk hP hD hS (rfl) d_Mo_row_48
    · exact absurd hone (fun q => q.elim c1 c5)
theorem x_Mo_row_1 {σ : oS} {x : Int32} {y : Int32} (hone : mo_in x 0 1 = 0 ∨ mo_in y (-10000) 10000 = 0) (F : CallFix p m c cc nL s args (cw :: tt) own) (hG : Cond.methodLink own index y_Mo_row ∈ tt) (hR : 1 + 1 ≤ R.frames ∧ 8 + (3 + 11) + 22 ≤ R.locals) (hK : va_K D vwCl (mt cI cZ) s) (hP : va_P D vwCl (mw cI cZ ad σ) H) (hD : va_D A (mw cI cZ ad σ)) (hS : va_S A H0 H locs) (hA : ∀ q, H0.size ≤ q → A q) (hsz : ls.size = nL) (hW : (rest.map fun v => v.category).sum ≤ 8) (hcs : cells ≤ R.cells ∧ slots ≤ R.slots) (hdg : decode cc pc = .ok (.invokevirtual index, 3)) (kk : ∀ (H1 : Heap) (locs1 : List Loc), va_P D vwCl (mw cI cZ ad (u3 σ 0 0 0 1)) H1 → va_D A (mw cI cZ ad (u3 σ 0 0 0 1)) → va_S A H0 H1 locs1 → W p l e R s m args below meth c H1 locs1 cells slots Q (F0 m (pc + 3) ls (.int 0 :: rest))) : W p l e R s m args below meth c H locs cells slots Q (F0 m pc ls (.int y :: .int x :: .ref (ad 0) :: rest)) :=
  ok_VM (As := [.int x, .int y]) F (c_Mo_row_1 σ hone) 2 (tt_V hG i_Mo_row l_Mo_row in9_Mo k_Mo_row) rfl ⟨rfl, rfl⟩ (by decide +kernel) hR hK hP hD hS hA (0) 6 rfl rfl mw_0 rfl hsz rfl hW hcs hdg kk
set_option maxHeartbeats 4000000 in
set_option maxRecDepth 100000 in
theorem c_Mo_row_2 (σ : oS) (h_r : σ 2 0 0 = nI 4) {x : Int32} {y : Int32} (h1 : mo_in x 0 1 = 1) (h2 : mo_in y (-10000) 10000 = 1) : ok_MM l y_Mo_row (Cond.code y_Mo_row b_Mo_row 3 (some .int) :: tt) { frames := 1, cells := 0, slots := 0, locals := 22 } D vwCl (mt cI cZ) (mw cI cZ ad σ) (mw cI cZ ad (u3 σ 0 0 0 2)) [.ref (ad 0), .int x, .int y] (some (.int 0)) := by
  refine ok_startM (cc := b_Mo_row) (own := RMo) (maxL := 3) (ret := (some .int)) (by decide +kernel) rfl rfl (Nat.le_of_ble_eq_true rfl) ?_
  intro p e s m below meth c A F hr hlk hA hP hK hD hS ls hl
  have hl : lv_has ls 3 [(0, .ref (ad 0)), (1, .int x), (2, .int y)] := hl
  have hx := F.1
  have hb := F.2.1
  refine lv_aload_n hx hb d_Mo_row_0 rfl (lv_at hl 0 rfl) ?_
  refine lv_iload_n hx hb d_Mo_row_1 rfl (lv_at hl 1 rfl) ?_
  refine lv_iconst (v := 0) hx hb d_Mo_row_2 (by decide) ?_
  refine lv_iconst (v := 1) hx hb d_Mo_row_3 (by decide) ?_
  refine x_Mo_in F (tt3 227 rfl rfl) ⟨Nat.le_of_ble_eq_true rfl, Nat.le_of_ble_eq_true rfl⟩ hK hP hl.1 (Nat.le_of_ble_eq_true rfl) ⟨Nat.zero_le _, Nat.zero_le _⟩ d_Mo_row_4 ?_
  refine lv_if_eq (tgt := 27) hx hb d_Mo_row_7 (by decide) (fun c1 => ?_) (fun c1 => ?_)
  · first | exact absurd c1 (by rw [h1]; decide) | exact absurd c1 (by rw [h2]; decide)
  · refine lv_iload_n hx hb d_Mo_row_10 rfl (lv_at hl 2 rfl) ?_
    refine lv_sipush (v := -10000) hx hb d_Mo_row_11 (by decide) ?_
    refine lv_sipush (v := 10000) hx hb d_Mo_row_14 (by decide) ?_
    refine x_Mo_in F (tt3 227 rfl rfl) ⟨Nat.le_of_ble_eq_true rfl, Nat.le_of_ble_eq_true rfl⟩ hK hP hl.1 (Nat.le_of_ble_eq_true rfl) ⟨Nat.zero_le _, Nat.zero_le _⟩ d_Mo_row_17 ?_
    refine lv_if_eq (tgt := 27) hx hb d_Mo_row_20 (by decide) (fun c2 => ?_) (fun c2 => ?_)
    · first | exact absurd c2 (by rw [h1]; decide) | exact absurd c2 (by rw [h2]; decide)
    · refine lv_iconst (v := 1) hx hb d_Mo_row_23 (by decide) ?_
      refine lv_goto (tgt := 28) hx hb d_Mo_row_24 (by decide) ?_
      refine lv_aload_n hx hb d_Mo_row_28 rfl (lv_at hl 0 rfl) ?_
      refine gf_Mo_rows F hK hP d_Mo_row_29 ?_
      refine lv_iconst (v := 4) hx hb d_Mo_row_32 (by decide) ?_
      refine lv_icmp_ge (tgt := 40) hx hb d_Mo_row_33 (by decide) (fun c3 => ?_) (fun c3 => ?_)
      · refine lv_iconst (v := 0) hx hb d_Mo_row_40 (by decide) ?_
        refine x_Mo_goes F (tt3 230 rfl rfl) ⟨Nat.le_of_ble_eq_true rfl, Nat.le_of_ble_eq_true rfl⟩ hK hP hD hS hA hl.1 (Nat.le_of_ble_eq_true rfl) ⟨Nat.zero_le _, Nat.zero_le _⟩ d_Mo_row_41 (fun H locs hP hD hS => ?_)
        have ew : u3 σ 0 0 0 (mo_g 1 0) = u3 σ 0 0 0 2 := by simp [mo_g]
        rw [ew] at hP hD
        clear ew
        refine lv_if_ne (tgt := 49) hx hb d_Mo_row_44 (by decide) (fun c4 => ?_) (fun c4 => ?_)
        · exact absurd (by simp [mo_g]) c4
        · refine lv_iconst (v := 0) hx hb d_Mo_row_47 (by decide) ?_
          exact ok_iretM F hr hlk hP hD hS (rfl) d_Mo_row_48
      · exact absurd (by rw [h_r]; decide) c3
theorem x_Mo_row_2 {σ : oS} (h_r : σ 2 0 0 = nI 4) {x : Int32} {y : Int32} (h1 : mo_in x 0 1 = 1) (h2 : mo_in y (-10000) 10000 = 1) (F : CallFix p m c cc nL s args (cw :: tt) own) (hG : Cond.methodLink own index y_Mo_row ∈ tt) (hR : 1 + 1 ≤ R.frames ∧ 8 + (3 + 11) + 22 ≤ R.locals) (hK : va_K D vwCl (mt cI cZ) s) (hP : va_P D vwCl (mw cI cZ ad σ) H) (hD : va_D A (mw cI cZ ad σ)) (hS : va_S A H0 H locs) (hA : ∀ q, H0.size ≤ q → A q) (hsz : ls.size = nL) (hW : (rest.map fun v => v.category).sum ≤ 8) (hcs : cells ≤ R.cells ∧ slots ≤ R.slots) (hdg : decode cc pc = .ok (.invokevirtual index, 3)) (kk : ∀ (H1 : Heap) (locs1 : List Loc), va_P D vwCl (mw cI cZ ad (u3 σ 0 0 0 2)) H1 → va_D A (mw cI cZ ad (u3 σ 0 0 0 2)) → va_S A H0 H1 locs1 → W p l e R s m args below meth c H1 locs1 cells slots Q (F0 m (pc + 3) ls (.int 0 :: rest))) : W p l e R s m args below meth c H locs cells slots Q (F0 m pc ls (.int y :: .int x :: .ref (ad 0) :: rest)) :=
  ok_VM (As := [.int x, .int y]) F (c_Mo_row_2 σ h_r h1 h2) 2 (tt_V hG i_Mo_row l_Mo_row in9_Mo k_Mo_row) rfl ⟨rfl, rfl⟩ (by decide +kernel) hR hK hP hD hS hA (0) 6 rfl rfl mw_0 rfl hsz rfl hW hcs hdg kk
set_option maxHeartbeats 4000000 in
set_option maxRecDepth 100000 in
theorem c_Mo_factor (σ : oS) {x : Int32} {k : Nat} (hk : x = nI k) (hk9 : k < 4) {y : Int32} {j : Nat} (hj : y = nI j) (hj9 : j < 5) {v : Int32} (h1 : mo_in x 0 (σ 2 0 0 - 1) = 1) (h2 : mo_in y 0 (σ 1 0 0 - 1) = 1) (h3 : mo_in v (-10) 10 = 1) : ok_MM l y_Mo_factor (Cond.code y_Mo_factor b_Mo_factor 4 none :: tt) { frames := 2, cells := 0, slots := 0, locals := 43 } D vwCl (mt cI cZ) (mw cI cZ ad σ) (mw cI cZ ad (mo_a (u3 (u3 σ 0 0 0 0) 14 0 (5 * k + j) v))) [.ref (ad 0), .int x, .int y, .int v] none := by
  refine ok_startM (cc := b_Mo_factor) (own := RMo) (maxL := 4) (ret := none) (by decide +kernel) rfl rfl (Nat.le_of_ble_eq_true rfl) ?_
  intro p e s m below meth c A F hr hlk hA hP hK hD hS ls hl
  have hl : lv_has ls 4 [(0, .ref (ad 0)), (1, .int x), (2, .int y), (3, .int v)] := hl
  have hx := F.1
  have hb := F.2.1
  refine lv_aload_n hx hb d_Mo_factor_0 rfl (lv_at hl 0 rfl) ?_
  refine lv_aload_n hx hb d_Mo_factor_1 rfl (lv_at hl 0 rfl) ?_
  refine lv_iload_n hx hb d_Mo_factor_2 rfl (lv_at hl 1 rfl) ?_
  refine x_Mo_isRow F (tt4 10 rfl rfl) ⟨Nat.le_of_ble_eq_true rfl, Nat.le_of_ble_eq_true rfl⟩ hK hP hl.1 (Nat.le_of_ble_eq_true rfl) ⟨Nat.zero_le _, Nat.zero_le _⟩ d_Mo_factor_3 ?_
  refine lv_if_eq (tgt := 21) hx hb d_Mo_factor_6 (by decide) (fun c1 => ?_) (fun c1 => ?_)
  · first | exact absurd c1 (by rw [h1]; decide) | exact absurd c1 (by rw [h2]; decide)
  · refine lv_aload_n hx hb d_Mo_factor_9 rfl (lv_at hl 0 rfl) ?_
    refine lv_iload_n hx hb d_Mo_factor_10 rfl (lv_at hl 2 rfl) ?_
    refine x_Mo_isColumn F (tt4 14 rfl rfl) ⟨Nat.le_of_ble_eq_true rfl, Nat.le_of_ble_eq_true rfl⟩ hK hP hl.1 (Nat.le_of_ble_eq_true rfl) ⟨Nat.zero_le _, Nat.zero_le _⟩ d_Mo_factor_11 ?_
    refine lv_if_eq (tgt := 21) hx hb d_Mo_factor_14 (by decide) (fun c2 => ?_) (fun c2 => ?_)
    · first | exact absurd c2 (by rw [h1]; decide) | exact absurd c2 (by rw [h2]; decide)
    · refine lv_iconst (v := 1) hx hb d_Mo_factor_17 (by decide) ?_
      refine lv_goto (tgt := 22) hx hb d_Mo_factor_18 (by decide) ?_
      refine lv_iload_n hx hb d_Mo_factor_22 rfl (lv_at hl 3 rfl) ?_
      refine lv_bipush (v := -10) hx hb d_Mo_factor_23 (by decide) ?_
      refine lv_bipush (v := 10) hx hb d_Mo_factor_25 (by decide) ?_
      refine x_Mo_in F (tt3 227 rfl rfl) ⟨Nat.le_of_ble_eq_true rfl, Nat.le_of_ble_eq_true rfl⟩ hK hP hl.1 (Nat.le_of_ble_eq_true rfl) ⟨Nat.zero_le _, Nat.zero_le _⟩ d_Mo_factor_27 ?_
      refine x_Mo_goes F (tt3 230 rfl rfl) ⟨Nat.le_of_ble_eq_true rfl, Nat.le_of_ble_eq_true rfl⟩ hK hP hD hS hA hl.1 (Nat.le_of_ble_eq_true rfl) ⟨Nat.zero_le _, Nat.zero_le _⟩ d_Mo_factor_30 (fun H locs hP hD hS => ?_)
      have ew : u3 σ 0 0 0 (mo_g 1 (mo_in v (-10) 10)) = u3 σ 0 0 0 0 := by rw [h3]; simp [mo_g]
      rw [ew] at hP hD
      clear ew
      refine lv_if_ne (tgt := 37) hx hb d_Mo_factor_33 (by decide) (fun c3 => ?_) (fun c3 => ?_)
      · refine lv_aload_n hx hb d_Mo_factor_37 rfl (lv_at hl 0 rfl) ?_
        refine gf_Mo_factor F hK hP d_Mo_factor_38 ?_
        refine lv_iconst (v := 5) hx hb d_Mo_factor_41 (by decide) ?_
        refine lv_iload_n hx hb d_Mo_factor_42 rfl (lv_at hl 1 rfl) ?_
        refine lv_imul hx hb d_Mo_factor_43 ?_
        refine lv_iload_n hx hb d_Mo_factor_44 rfl (lv_at hl 2 rfl) ?_
        refine lv_iadd hx hb d_Mo_factor_45 ?_
        refine lv_iload_n hx hb d_Mo_factor_46 rfl (lv_at hl 3 rfl) ?_
        refine sm_14 (j := (5 * k + j)) F hK hP hD hS (by rw [hk, hj]; exact mo_ix) (by omega) d_Mo_factor_47 (fun H locs hP hD hS => ?_)
        refine lv_aload_n hx hb d_Mo_factor_48 rfl (lv_at hl 0 rfl) ?_
        refine x_Mo_anew F (tt3 234 rfl rfl) ⟨Nat.le_of_ble_eq_true rfl, Nat.le_of_ble_eq_true rfl⟩ hK hP hD hS hA hl.1 (Nat.le_of_ble_eq_true rfl) ⟨Nat.zero_le _, Nat.zero_le _⟩ d_Mo_factor_49 (fun H locs hP hD hS => ?_)
        exact ok_vretM F hr hlk hP hD hS d_Mo_factor_52
      · exact absurd c3 (by rw [h3]; simp [mo_g])
theorem x_Mo_factor {σ : oS} {x : Int32} {k : Nat} (hk : x = nI k) (hk9 : k < 4) {y : Int32} {j : Nat} (hj : y = nI j) (hj9 : j < 5) {v : Int32} (h1 : mo_in x 0 (σ 2 0 0 - 1) = 1) (h2 : mo_in y 0 (σ 1 0 0 - 1) = 1) (h3 : mo_in v (-10) 10 = 1) (F : CallFix p m c cc nL s args (cw :: tt) own) (hG : Cond.methodLink own index y_Mo_factor ∈ tt) (hR : 2 + 1 ≤ R.frames ∧ 8 + (4 + 11) + 43 ≤ R.locals) (hK : va_K D vwCl (mt cI cZ) s) (hP : va_P D vwCl (mw cI cZ ad σ) H) (hD : va_D A (mw cI cZ ad σ)) (hS : va_S A H0 H locs) (hA : ∀ q, H0.size ≤ q → A q) (hsz : ls.size = nL) (hW : (rest.map fun v => v.category).sum ≤ 8) (hcs : cells ≤ R.cells ∧ slots ≤ R.slots) (hdg : decode cc pc = .ok (.invokevirtual index, 3)) (kk : ∀ (H1 : Heap) (locs1 : List Loc), va_P D vwCl (mw cI cZ ad (mo_a (u3 (u3 σ 0 0 0 0) 14 0 (5 * k + j) v))) H1 → va_D A (mw cI cZ ad (mo_a (u3 (u3 σ 0 0 0 0) 14 0 (5 * k + j) v))) → va_S A H0 H1 locs1 → W p l e R s m args below meth c H1 locs1 cells slots Q (F0 m (pc + 3) ls (rest))) : W p l e R s m args below meth c H locs cells slots Q (F0 m pc ls (.int v :: .int y :: .int x :: .ref (ad 0) :: rest)) :=
  ok_VM (As := [.int x, .int y, .int v]) F (c_Mo_factor σ hk hk9 hj hj9 h1 h2 h3) 3 (tt_V hG i_Mo_factor l_Mo_factor in9_Mo k_Mo_factor) rfl ⟨rfl, rfl⟩ (by decide +kernel) hR hK hP hD hS hA (0) 6 rfl rfl mw_0 rfl hsz rfl hW hcs hdg kk
set_option maxHeartbeats 4000000 in
set_option maxRecDepth 100000 in
theorem c_Mo_factor_1 (σ : oS) {x : Int32} {y : Int32} {v : Int32} (hone : mo_in x 0 (σ 2 0 0 - 1) = 0 ∨ mo_in y 0 (σ 1 0 0 - 1) = 0) : ok_MM l y_Mo_factor (Cond.code y_Mo_factor b_Mo_factor 4 none :: tt) { frames := 2, cells := 0, slots := 0, locals := 43 } D vwCl (mt cI cZ) (mw cI cZ ad σ) (mw cI cZ ad (u3 σ 0 0 0 1)) [.ref (ad 0), .int x, .int y, .int v] none := by
  refine ok_startM (cc := b_Mo_factor) (own := RMo) (maxL := 4) (ret := none) (by decide +kernel) rfl rfl (Nat.le_of_ble_eq_true rfl) ?_
  intro p e s m below meth c A F hr hlk hA hP hK hD hS ls hl
  have hl : lv_has ls 4 [(0, .ref (ad 0)), (1, .int x), (2, .int y), (3, .int v)] := hl
  have hx := F.1
  have hb := F.2.1
  refine lv_aload_n hx hb d_Mo_factor_0 rfl (lv_at hl 0 rfl) ?_
  refine lv_aload_n hx hb d_Mo_factor_1 rfl (lv_at hl 0 rfl) ?_
  refine lv_iload_n hx hb d_Mo_factor_2 rfl (lv_at hl 1 rfl) ?_
  refine x_Mo_isRow F (tt4 10 rfl rfl) ⟨Nat.le_of_ble_eq_true rfl, Nat.le_of_ble_eq_true rfl⟩ hK hP hl.1 (Nat.le_of_ble_eq_true rfl) ⟨Nat.zero_le _, Nat.zero_le _⟩ d_Mo_factor_3 ?_
  refine lv_if_eq (tgt := 21) hx hb d_Mo_factor_6 (by decide) (fun c1 => ?_) (fun c1 => ?_)
  · refine lv_iconst (v := 0) hx hb d_Mo_factor_21 (by decide) ?_
    refine lv_iload_n hx hb d_Mo_factor_22 rfl (lv_at hl 3 rfl) ?_
    refine lv_bipush (v := -10) hx hb d_Mo_factor_23 (by decide) ?_
    refine lv_bipush (v := 10) hx hb d_Mo_factor_25 (by decide) ?_
    refine x_Mo_in F (tt3 227 rfl rfl) ⟨Nat.le_of_ble_eq_true rfl, Nat.le_of_ble_eq_true rfl⟩ hK hP hl.1 (Nat.le_of_ble_eq_true rfl) ⟨Nat.zero_le _, Nat.zero_le _⟩ d_Mo_factor_27 ?_
    refine x_Mo_goes F (tt3 230 rfl rfl) ⟨Nat.le_of_ble_eq_true rfl, Nat.le_of_ble_eq_true rfl⟩ hK hP hD hS hA hl.1 (Nat.le_of_ble_eq_true rfl) ⟨Nat.zero_le _, Nat.zero_le _⟩ d_Mo_factor_30 (fun H locs hP hD hS => ?_)
    have ew : u3 σ 0 0 0 (mo_g 0 (mo_in v (-10) 10)) = u3 σ 0 0 0 1 := by simp [mo_g]
    rw [ew] at hP hD
    clear ew
    refine lv_if_ne (tgt := 37) hx hb d_Mo_factor_33 (by decide) (fun c2 => ?_) (fun c2 => ?_)
    · exact absurd (by simp [mo_g]) c2
    · exact ok_vretM F hr hlk hP hD hS d_Mo_factor_36
  · refine lv_aload_n hx hb d_Mo_factor_9 rfl (lv_at hl 0 rfl) ?_
    refine lv_iload_n hx hb d_Mo_factor_10 rfl (lv_at hl 2 rfl) ?_
    refine x_Mo_isColumn F (tt4 14 rfl rfl) ⟨Nat.le_of_ble_eq_true rfl, Nat.le_of_ble_eq_true rfl⟩ hK hP hl.1 (Nat.le_of_ble_eq_true rfl) ⟨Nat.zero_le _, Nat.zero_le _⟩ d_Mo_factor_11 ?_
    refine lv_if_eq (tgt := 21) hx hb d_Mo_factor_14 (by decide) (fun c3 => ?_) (fun c3 => ?_)
    · refine lv_iconst (v := 0) hx hb d_Mo_factor_21 (by decide) ?_
      refine lv_iload_n hx hb d_Mo_factor_22 rfl (lv_at hl 3 rfl) ?_
      refine lv_bipush (v := -10) hx hb d_Mo_factor_23 (by decide) ?_
      refine lv_bipush (v := 10) hx hb d_Mo_factor_25 (by decide) ?_
      refine x_Mo_in F (tt3 227 rfl rfl) ⟨Nat.le_of_ble_eq_true rfl, Nat.le_of_ble_eq_true rfl⟩ hK hP hl.1 (Nat.le_of_ble_eq_true rfl) ⟨Nat.zero_le _, Nat.zero_le _⟩ d_Mo_factor_27 ?_
      refine x_Mo_goes F (tt3 230 rfl rfl) ⟨Nat.le_of_ble_eq_true rfl, Nat.le_of_ble_eq_true rfl⟩ hK hP hD hS hA hl.1 (Nat.le_of_ble_eq_true rfl) ⟨Nat.zero_le _, Nat.zero_le _⟩ d_Mo_factor_30 (fun H locs hP hD hS => ?_)
      have ew : u3 σ 0 0 0 (mo_g 0 (mo_in v (-10) 10)) = u3 σ 0 0 0 1 := by simp [mo_g]
      rw [ew] at hP hD
      clear ew
      refine lv_if_ne (tgt := 37) hx hb d_Mo_factor_33 (by decide) (fun c4 => ?_) (fun c4 => ?_)
      · exact absurd (by simp [mo_g]) c4
      · exact ok_vretM F hr hlk hP hD hS d_Mo_factor_36
    · exact absurd hone (fun q => q.elim c1 c3)
theorem x_Mo_factor_1 {σ : oS} {x : Int32} {y : Int32} {v : Int32} (hone : mo_in x 0 (σ 2 0 0 - 1) = 0 ∨ mo_in y 0 (σ 1 0 0 - 1) = 0) (F : CallFix p m c cc nL s args (cw :: tt) own) (hG : Cond.methodLink own index y_Mo_factor ∈ tt) (hR : 2 + 1 ≤ R.frames ∧ 8 + (4 + 11) + 43 ≤ R.locals) (hK : va_K D vwCl (mt cI cZ) s) (hP : va_P D vwCl (mw cI cZ ad σ) H) (hD : va_D A (mw cI cZ ad σ)) (hS : va_S A H0 H locs) (hA : ∀ q, H0.size ≤ q → A q) (hsz : ls.size = nL) (hW : (rest.map fun v => v.category).sum ≤ 8) (hcs : cells ≤ R.cells ∧ slots ≤ R.slots) (hdg : decode cc pc = .ok (.invokevirtual index, 3)) (kk : ∀ (H1 : Heap) (locs1 : List Loc), va_P D vwCl (mw cI cZ ad (u3 σ 0 0 0 1)) H1 → va_D A (mw cI cZ ad (u3 σ 0 0 0 1)) → va_S A H0 H1 locs1 → W p l e R s m args below meth c H1 locs1 cells slots Q (F0 m (pc + 3) ls (rest))) : W p l e R s m args below meth c H locs cells slots Q (F0 m pc ls (.int v :: .int y :: .int x :: .ref (ad 0) :: rest)) :=
  ok_VM (As := [.int x, .int y, .int v]) F (c_Mo_factor_1 σ hone) 3 (tt_V hG i_Mo_factor l_Mo_factor in9_Mo k_Mo_factor) rfl ⟨rfl, rfl⟩ (by decide +kernel) hR hK hP hD hS hA (0) 6 rfl rfl mw_0 rfl hsz rfl hW hcs hdg kk
set_option maxHeartbeats 4000000 in
set_option maxRecDepth 100000 in
theorem c_Mo_factor_2 (σ : oS) {x : Int32} {y : Int32} {v : Int32} (h1 : mo_in x 0 (σ 2 0 0 - 1) = 1) (h2 : mo_in y 0 (σ 1 0 0 - 1) = 1) (h3 : mo_in v (-10) 10 = 0) : ok_MM l y_Mo_factor (Cond.code y_Mo_factor b_Mo_factor 4 none :: tt) { frames := 2, cells := 0, slots := 0, locals := 43 } D vwCl (mt cI cZ) (mw cI cZ ad σ) (mw cI cZ ad (u3 σ 0 0 0 2)) [.ref (ad 0), .int x, .int y, .int v] none := by
  refine ok_startM (cc := b_Mo_factor) (own := RMo) (maxL := 4) (ret := none) (by decide +kernel) rfl rfl (Nat.le_of_ble_eq_true rfl) ?_
  intro p e s m below meth c A F hr hlk hA hP hK hD hS ls hl
  have hl : lv_has ls 4 [(0, .ref (ad 0)), (1, .int x), (2, .int y), (3, .int v)] := hl
  have hx := F.1
  have hb := F.2.1
  refine lv_aload_n hx hb d_Mo_factor_0 rfl (lv_at hl 0 rfl) ?_
  refine lv_aload_n hx hb d_Mo_factor_1 rfl (lv_at hl 0 rfl) ?_
  refine lv_iload_n hx hb d_Mo_factor_2 rfl (lv_at hl 1 rfl) ?_
  refine x_Mo_isRow F (tt4 10 rfl rfl) ⟨Nat.le_of_ble_eq_true rfl, Nat.le_of_ble_eq_true rfl⟩ hK hP hl.1 (Nat.le_of_ble_eq_true rfl) ⟨Nat.zero_le _, Nat.zero_le _⟩ d_Mo_factor_3 ?_
  refine lv_if_eq (tgt := 21) hx hb d_Mo_factor_6 (by decide) (fun c1 => ?_) (fun c1 => ?_)
  · first | exact absurd c1 (by rw [h1]; decide) | exact absurd c1 (by rw [h2]; decide)
  · refine lv_aload_n hx hb d_Mo_factor_9 rfl (lv_at hl 0 rfl) ?_
    refine lv_iload_n hx hb d_Mo_factor_10 rfl (lv_at hl 2 rfl) ?_
    refine x_Mo_isColumn F (tt4 14 rfl rfl) ⟨Nat.le_of_ble_eq_true rfl, Nat.le_of_ble_eq_true rfl⟩ hK hP hl.1 (Nat.le_of_ble_eq_true rfl) ⟨Nat.zero_le _, Nat.zero_le _⟩ d_Mo_factor_11 ?_
    refine lv_if_eq (tgt := 21) hx hb d_Mo_factor_14 (by decide) (fun c2 => ?_) (fun c2 => ?_)
    · first | exact absurd c2 (by rw [h1]; decide) | exact absurd c2 (by rw [h2]; decide)
    · refine lv_iconst (v := 1) hx hb d_Mo_factor_17 (by decide) ?_
      refine lv_goto (tgt := 22) hx hb d_Mo_factor_18 (by decide) ?_
      refine lv_iload_n hx hb d_Mo_factor_22 rfl (lv_at hl 3 rfl) ?_
      refine lv_bipush (v := -10) hx hb d_Mo_factor_23 (by decide) ?_
      refine lv_bipush (v := 10) hx hb d_Mo_factor_25 (by decide) ?_
      refine x_Mo_in F (tt3 227 rfl rfl) ⟨Nat.le_of_ble_eq_true rfl, Nat.le_of_ble_eq_true rfl⟩ hK hP hl.1 (Nat.le_of_ble_eq_true rfl) ⟨Nat.zero_le _, Nat.zero_le _⟩ d_Mo_factor_27 ?_
      refine x_Mo_goes F (tt3 230 rfl rfl) ⟨Nat.le_of_ble_eq_true rfl, Nat.le_of_ble_eq_true rfl⟩ hK hP hD hS hA hl.1 (Nat.le_of_ble_eq_true rfl) ⟨Nat.zero_le _, Nat.zero_le _⟩ d_Mo_factor_30 (fun H locs hP hD hS => ?_)
      have ew : u3 σ 0 0 0 (mo_g 1 (mo_in v (-10) 10)) = u3 σ 0 0 0 2 := by rw [h3]; simp [mo_g]
      rw [ew] at hP hD
      clear ew
      refine lv_if_ne (tgt := 37) hx hb d_Mo_factor_33 (by decide) (fun c3 => ?_) (fun c3 => ?_)
      · exact absurd (by rw [h3]; simp [mo_g]) c3
      · exact ok_vretM F hr hlk hP hD hS d_Mo_factor_36
theorem x_Mo_factor_2 {σ : oS} {x : Int32} {y : Int32} {v : Int32} (h1 : mo_in x 0 (σ 2 0 0 - 1) = 1) (h2 : mo_in y 0 (σ 1 0 0 - 1) = 1) (h3 : mo_in v (-10) 10 = 0) (F : CallFix p m c cc nL s args (cw :: tt) own) (hG : Cond.methodLink own index y_Mo_factor ∈ tt) (hR : 2 + 1 ≤ R.frames ∧ 8 + (4 + 11) + 43 ≤ R.locals) (hK : va_K D vwCl (mt cI cZ) s) (hP : va_P D vwCl (mw cI cZ ad σ) H) (hD : va_D A (mw cI cZ ad σ)) (hS : va_S A H0 H locs) (hA : ∀ q, H0.size ≤ q → A q) (hsz : ls.size = nL) (hW : (rest.map fun v => v.category).sum ≤ 8) (hcs : cells ≤ R.cells ∧ slots ≤ R.slots) (hdg : decode cc pc = .ok (.invokevirtual index, 3)) (kk : ∀ (H1 : Heap) (locs1 : List Loc), va_P D vwCl (mw cI cZ ad (u3 σ 0 0 0 2)) H1 → va_D A (mw cI cZ ad (u3 σ 0 0 0 2)) → va_S A H0 H1 locs1 → W p l e R s m args below meth c H1 locs1 cells slots Q (F0 m (pc + 3) ls (rest))) : W p l e R s m args below meth c H locs cells slots Q (F0 m pc ls (.int v :: .int y :: .int x :: .ref (ad 0) :: rest)) :=
  ok_VM (As := [.int x, .int y, .int v]) F (c_Mo_factor_2 σ h1 h2 h3) 3 (tt_V hG i_Mo_factor l_Mo_factor in9_Mo k_Mo_factor) rfl ⟨rfl, rfl⟩ (by decide +kernel) hR hK hP hD hS hA (0) 6 rfl rfl mw_0 rfl hsz rfl hW hcs hdg kk
set_option maxHeartbeats 4000000 in
set_option maxRecDepth 100000 in
theorem c_Mo_right (σ : oS) {x : Int32} {k : Nat} (hk : x = nI k) (hk9 : k < 4) {y : Int32} (h1 : mo_in x 0 (σ 2 0 0 - 1) = 1) (h3 : mo_in y (-10000) 10000 = 1) : ok_MM l y_Mo_right (Cond.code y_Mo_right b_Mo_right 3 none :: tt) { frames := 2, cells := 0, slots := 0, locals := 43 } D vwCl (mt cI cZ) (mw cI cZ ad σ) (mw cI cZ ad (mo_a (u3 (u3 σ 0 0 0 0) 13 0 k y))) [.ref (ad 0), .int x, .int y] none := by
  refine ok_startM (cc := b_Mo_right) (own := RMo) (maxL := 3) (ret := none) (by decide +kernel) rfl rfl (Nat.le_of_ble_eq_true rfl) ?_
  intro p e s m below meth c A F hr hlk hA hP hK hD hS ls hl
  have hl : lv_has ls 3 [(0, .ref (ad 0)), (1, .int x), (2, .int y)] := hl
  have hx := F.1
  have hb := F.2.1
  refine lv_aload_n hx hb d_Mo_right_0 rfl (lv_at hl 0 rfl) ?_
  refine lv_aload_n hx hb d_Mo_right_1 rfl (lv_at hl 0 rfl) ?_
  refine lv_iload_n hx hb d_Mo_right_2 rfl (lv_at hl 1 rfl) ?_
  refine x_Mo_isRow F (tt4 10 rfl rfl) ⟨Nat.le_of_ble_eq_true rfl, Nat.le_of_ble_eq_true rfl⟩ hK hP hl.1 (Nat.le_of_ble_eq_true rfl) ⟨Nat.zero_le _, Nat.zero_le _⟩ d_Mo_right_3 ?_
  refine lv_iload_n hx hb d_Mo_right_6 rfl (lv_at hl 2 rfl) ?_
  refine lv_sipush (v := -10000) hx hb d_Mo_right_7 (by decide) ?_
  refine lv_sipush (v := 10000) hx hb d_Mo_right_10 (by decide) ?_
  refine x_Mo_in F (tt3 227 rfl rfl) ⟨Nat.le_of_ble_eq_true rfl, Nat.le_of_ble_eq_true rfl⟩ hK hP hl.1 (Nat.le_of_ble_eq_true rfl) ⟨Nat.zero_le _, Nat.zero_le _⟩ d_Mo_right_13 ?_
  refine x_Mo_goes F (tt3 230 rfl rfl) ⟨Nat.le_of_ble_eq_true rfl, Nat.le_of_ble_eq_true rfl⟩ hK hP hD hS hA hl.1 (Nat.le_of_ble_eq_true rfl) ⟨Nat.zero_le _, Nat.zero_le _⟩ d_Mo_right_16 (fun H locs hP hD hS => ?_)
  have ew : u3 σ 0 0 0 (mo_g (mo_in x 0 (σ 2 0 0 - 1)) (mo_in y (-10000) 10000)) = u3 σ 0 0 0 0 := by rw [h1, h3]; simp [mo_g]
  rw [ew] at hP hD
  clear ew
  refine lv_if_ne (tgt := 23) hx hb d_Mo_right_19 (by decide) (fun c1 => ?_) (fun c1 => ?_)
  · refine lv_aload_n hx hb d_Mo_right_23 rfl (lv_at hl 0 rfl) ?_
    refine gf_Mo_right F hK hP d_Mo_right_24 ?_
    refine lv_iload_n hx hb d_Mo_right_27 rfl (lv_at hl 1 rfl) ?_
    refine lv_iload_n hx hb d_Mo_right_28 rfl (lv_at hl 2 rfl) ?_
    refine sm_13 (j := k) F hK hP hD hS hk (by omega) d_Mo_right_29 (fun H locs hP hD hS => ?_)
    refine lv_aload_n hx hb d_Mo_right_30 rfl (lv_at hl 0 rfl) ?_
    refine x_Mo_anew F (tt3 234 rfl rfl) ⟨Nat.le_of_ble_eq_true rfl, Nat.le_of_ble_eq_true rfl⟩ hK hP hD hS hA hl.1 (Nat.le_of_ble_eq_true rfl) ⟨Nat.zero_le _, Nat.zero_le _⟩ d_Mo_right_31 (fun H locs hP hD hS => ?_)
    exact ok_vretM F hr hlk hP hD hS d_Mo_right_34
  · exact absurd c1 (by rw [h1, h3]; simp [mo_g])
theorem x_Mo_right {σ : oS} {x : Int32} {k : Nat} (hk : x = nI k) (hk9 : k < 4) {y : Int32} (h1 : mo_in x 0 (σ 2 0 0 - 1) = 1) (h3 : mo_in y (-10000) 10000 = 1) (F : CallFix p m c cc nL s args (cw :: tt) own) (hG : Cond.methodLink own index y_Mo_right ∈ tt) (hR : 2 + 1 ≤ R.frames ∧ 8 + (3 + 11) + 43 ≤ R.locals) (hK : va_K D vwCl (mt cI cZ) s) (hP : va_P D vwCl (mw cI cZ ad σ) H) (hD : va_D A (mw cI cZ ad σ)) (hS : va_S A H0 H locs) (hA : ∀ q, H0.size ≤ q → A q) (hsz : ls.size = nL) (hW : (rest.map fun v => v.category).sum ≤ 8) (hcs : cells ≤ R.cells ∧ slots ≤ R.slots) (hdg : decode cc pc = .ok (.invokevirtual index, 3)) (kk : ∀ (H1 : Heap) (locs1 : List Loc), va_P D vwCl (mw cI cZ ad (mo_a (u3 (u3 σ 0 0 0 0) 13 0 k y))) H1 → va_D A (mw cI cZ ad (mo_a (u3 (u3 σ 0 0 0 0) 13 0 k y))) → va_S A H0 H1 locs1 → W p l e R s m args below meth c H1 locs1 cells slots Q (F0 m (pc + 3) ls (rest))) : W p l e R s m args below meth c H locs cells slots Q (F0 m pc ls (.int y :: .int x :: .ref (ad 0) :: rest)) :=
  ok_VM (As := [.int x, .int y]) F (c_Mo_right σ hk hk9 h1 h3) 2 (tt_V hG i_Mo_right l_Mo_right in9_Mo k_Mo_right) rfl ⟨rfl, rfl⟩ (by decide +kernel) hR hK hP hD hS hA (0) 6 rfl rfl mw_0 rfl hsz rfl hW hcs hdg kk
set_option maxHeartbeats 4000000 in
set_option maxRecDepth 100000 in
theorem c_Mo_right_1 (σ : oS) {x : Int32} {y : Int32} (h1 : mo_in x 0 (σ 2 0 0 - 1) = 0) : ok_MM l y_Mo_right (Cond.code y_Mo_right b_Mo_right 3 none :: tt) { frames := 2, cells := 0, slots := 0, locals := 43 } D vwCl (mt cI cZ) (mw cI cZ ad σ) (mw cI cZ ad (u3 σ 0 0 0 1)) [.ref (ad 0), .int x, .int y] none := by
  refine ok_startM (cc := b_Mo_right) (own := RMo) (maxL := 3) (ret := none) (by decide +kernel) rfl rfl (Nat.le_of_ble_eq_true rfl) ?_
  intro p e s m below meth c A F hr hlk hA hP hK hD hS ls hl
  have hl : lv_has ls 3 [(0, .ref (ad 0)), (1, .int x), (2, .int y)] := hl
  have hx := F.1
  have hb := F.2.1
  refine lv_aload_n hx hb d_Mo_right_0 rfl (lv_at hl 0 rfl) ?_
  refine lv_aload_n hx hb d_Mo_right_1 rfl (lv_at hl 0 rfl) ?_
  refine lv_iload_n hx hb d_Mo_right_2 rfl (lv_at hl 1 rfl) ?_
  refine x_Mo_isRow F (tt4 10 rfl rfl) ⟨Nat.le_of_ble_eq_true rfl, Nat.le_of_ble_eq_true rfl⟩ hK hP hl.1 (Nat.le_of_ble_eq_true rfl) ⟨Nat.zero_le _, Nat.zero_le _⟩ d_Mo_right_3 ?_
  refine lv_iload_n hx hb d_Mo_right_6 rfl (lv_at hl 2 rfl) ?_
  refine lv_sipush (v := -10000) hx hb d_Mo_right_7 (by decide) ?_
  refine lv_sipush (v := 10000) hx hb d_Mo_right_10 (by decide) ?_
  refine x_Mo_in F (tt3 227 rfl rfl) ⟨Nat.le_of_ble_eq_true rfl, Nat.le_of_ble_eq_true rfl⟩ hK hP hl.1 (Nat.le_of_ble_eq_true rfl) ⟨Nat.zero_le _, Nat.zero_le _⟩ d_Mo_right_13 ?_
  refine x_Mo_goes F (tt3 230 rfl rfl) ⟨Nat.le_of_ble_eq_true rfl, Nat.le_of_ble_eq_true rfl⟩ hK hP hD hS hA hl.1 (Nat.le_of_ble_eq_true rfl) ⟨Nat.zero_le _, Nat.zero_le _⟩ d_Mo_right_16 (fun H locs hP hD hS => ?_)
  have ew : u3 σ 0 0 0 (mo_g (mo_in x 0 (σ 2 0 0 - 1)) (mo_in y (-10000) 10000)) = u3 σ 0 0 0 1 := by rw [h1]; simp [mo_g]
  rw [ew] at hP hD
  clear ew
  refine lv_if_ne (tgt := 23) hx hb d_Mo_right_19 (by decide) (fun c1 => ?_) (fun c1 => ?_)
  · exact absurd (by rw [h1]; simp [mo_g]) c1
  · exact ok_vretM F hr hlk hP hD hS d_Mo_right_22
theorem x_Mo_right_1 {σ : oS} {x : Int32} {y : Int32} (h1 : mo_in x 0 (σ 2 0 0 - 1) = 0) (F : CallFix p m c cc nL s args (cw :: tt) own) (hG : Cond.methodLink own index y_Mo_right ∈ tt) (hR : 2 + 1 ≤ R.frames ∧ 8 + (3 + 11) + 43 ≤ R.locals) (hK : va_K D vwCl (mt cI cZ) s) (hP : va_P D vwCl (mw cI cZ ad σ) H) (hD : va_D A (mw cI cZ ad σ)) (hS : va_S A H0 H locs) (hA : ∀ q, H0.size ≤ q → A q) (hsz : ls.size = nL) (hW : (rest.map fun v => v.category).sum ≤ 8) (hcs : cells ≤ R.cells ∧ slots ≤ R.slots) (hdg : decode cc pc = .ok (.invokevirtual index, 3)) (kk : ∀ (H1 : Heap) (locs1 : List Loc), va_P D vwCl (mw cI cZ ad (u3 σ 0 0 0 1)) H1 → va_D A (mw cI cZ ad (u3 σ 0 0 0 1)) → va_S A H0 H1 locs1 → W p l e R s m args below meth c H1 locs1 cells slots Q (F0 m (pc + 3) ls (rest))) : W p l e R s m args below meth c H locs cells slots Q (F0 m pc ls (.int y :: .int x :: .ref (ad 0) :: rest)) :=
  ok_VM (As := [.int x, .int y]) F (c_Mo_right_1 σ h1) 2 (tt_V hG i_Mo_right l_Mo_right in9_Mo k_Mo_right) rfl ⟨rfl, rfl⟩ (by decide +kernel) hR hK hP hD hS hA (0) 6 rfl rfl mw_0 rfl hsz rfl hW hcs hdg kk
set_option maxHeartbeats 4000000 in
set_option maxRecDepth 100000 in
theorem c_Mo_right_2 (σ : oS) {x : Int32} {y : Int32} (h1 : mo_in x 0 (σ 2 0 0 - 1) = 1) (h3 : mo_in y (-10000) 10000 = 0) : ok_MM l y_Mo_right (Cond.code y_Mo_right b_Mo_right 3 none :: tt) { frames := 2, cells := 0, slots := 0, locals := 43 } D vwCl (mt cI cZ) (mw cI cZ ad σ) (mw cI cZ ad (u3 σ 0 0 0 2)) [.ref (ad 0), .int x, .int y] none := by
  refine ok_startM (cc := b_Mo_right) (own := RMo) (maxL := 3) (ret := none) (by decide +kernel) rfl rfl (Nat.le_of_ble_eq_true rfl) ?_
  intro p e s m below meth c A F hr hlk hA hP hK hD hS ls hl
  have hl : lv_has ls 3 [(0, .ref (ad 0)), (1, .int x), (2, .int y)] := hl
  have hx := F.1
  have hb := F.2.1
  refine lv_aload_n hx hb d_Mo_right_0 rfl (lv_at hl 0 rfl) ?_
  refine lv_aload_n hx hb d_Mo_right_1 rfl (lv_at hl 0 rfl) ?_
  refine lv_iload_n hx hb d_Mo_right_2 rfl (lv_at hl 1 rfl) ?_
  refine x_Mo_isRow F (tt4 10 rfl rfl) ⟨Nat.le_of_ble_eq_true rfl, Nat.le_of_ble_eq_true rfl⟩ hK hP hl.1 (Nat.le_of_ble_eq_true rfl) ⟨Nat.zero_le _, Nat.zero_le _⟩ d_Mo_right_3 ?_
  refine lv_iload_n hx hb d_Mo_right_6 rfl (lv_at hl 2 rfl) ?_
  refine lv_sipush (v := -10000) hx hb d_Mo_right_7 (by decide) ?_
  refine lv_sipush (v := 10000) hx hb d_Mo_right_10 (by decide) ?_
  refine x_Mo_in F (tt3 227 rfl rfl) ⟨Nat.le_of_ble_eq_true rfl, Nat.le_of_ble_eq_true rfl⟩ hK hP hl.1 (Nat.le_of_ble_eq_true rfl) ⟨Nat.zero_le _, Nat.zero_le _⟩ d_Mo_right_13 ?_
  refine x_Mo_goes F (tt3 230 rfl rfl) ⟨Nat.le_of_ble_eq_true rfl, Nat.le_of_ble_eq_true rfl⟩ hK hP hD hS hA hl.1 (Nat.le_of_ble_eq_true rfl) ⟨Nat.zero_le _, Nat.zero_le _⟩ d_Mo_right_16 (fun H locs hP hD hS => ?_)
  have ew : u3 σ 0 0 0 (mo_g (mo_in x 0 (σ 2 0 0 - 1)) (mo_in y (-10000) 10000)) = u3 σ 0 0 0 2 := by rw [h1, h3]; simp [mo_g]
  rw [ew] at hP hD
  clear ew
  refine lv_if_ne (tgt := 23) hx hb d_Mo_right_19 (by decide) (fun c1 => ?_) (fun c1 => ?_)
  · exact absurd (by rw [h1, h3]; simp [mo_g]) c1
  · exact ok_vretM F hr hlk hP hD hS d_Mo_right_22
theorem x_Mo_right_2 {σ : oS} {x : Int32} {y : Int32} (h1 : mo_in x 0 (σ 2 0 0 - 1) = 1) (h3 : mo_in y (-10000) 10000 = 0) (F : CallFix p m c cc nL s args (cw :: tt) own) (hG : Cond.methodLink own index y_Mo_right ∈ tt) (hR : 2 + 1 ≤ R.frames ∧ 8 + (3 + 11) + 43 ≤ R.locals) (hK : va_K D vwCl (mt cI cZ) s) (hP : va_P D vwCl (mw cI cZ ad σ) H) (hD : va_D A (mw cI cZ ad σ)) (hS : va_S A H0 H locs) (hA : ∀ q, H0.size ≤ q → A q) (hsz : ls.size = nL) (hW : (rest.map fun v => v.category).sum ≤ 8) (hcs : cells ≤ R.cells ∧ slots ≤ R.slots) (hdg : decode cc pc = .ok (.invokevirtual index, 3)) (kk : ∀ (H1 : Heap) (locs1 : List Loc), va_P D vwCl (mw cI cZ ad (u3 σ 0 0 0 2)) H1 → va_D A (mw cI cZ ad (u3 σ 0 0 0 2)) → va_S A H0 H1 locs1 → W p l e R s m args below meth c H1 locs1 cells slots Q (F0 m (pc + 3) ls (rest))) : W p l e R s m args below meth c H locs cells slots Q (F0 m pc ls (.int y :: .int x :: .ref (ad 0) :: rest)) :=
  ok_VM (As := [.int x, .int y]) F (c_Mo_right_2 σ h1 h3) 2 (tt_V hG i_Mo_right l_Mo_right in9_Mo k_Mo_right) rfl ⟨rfl, rfl⟩ (by decide +kernel) hR hK hP hD hS hA (0) 6 rfl rfl mw_0 rfl hsz rfl hW hcs hdg kk
set_option maxHeartbeats 4000000 in
set_option maxRecDepth 100000 in
theorem c_Mo_told (σ : oS) {x : Int32} (h1 : mo_in x 0 1 = 1) (h2 : x = 1 ∨ ¬ σ 7 0 0 = 0) : ok_MM l y_Mo_told (Cond.code y_Mo_told b_Mo_told 2 (some .int) :: tt) { frames := 1, cells := 0, slots := 0, locals := 22 } D vwCl (mt cI cZ) (mw cI cZ ad σ) (mw cI cZ ad (u3 σ 0 0 0 0)) [.ref (ad 0), .int x] (some (.int (if x = 0 then σ 9 0 0 else σ 8 0 0))) := by
  refine ok_startM (cc := b_Mo_told) (own := RMo) (maxL := 2) (ret := (some .int)) (by decide +kernel) rfl rfl (Nat.le_of_ble_eq_true rfl) ?_
  intro p e s m below meth c A F hr hlk hA hP hK hD hS ls hl
  have hl : lv_has ls 2 [(0, .ref (ad 0)), (1, .int x)] := hl
  have hx := F.1
  have hb := F.2.1
  refine lv_aload_n hx hb d_Mo_told_0 rfl (lv_at hl 0 rfl) ?_
  refine lv_iload_n hx hb d_Mo_told_1 rfl (lv_at hl 1 rfl) ?_
  refine lv_iconst (v := 0) hx hb d_Mo_told_2 (by decide) ?_
  refine lv_iconst (v := 1) hx hb d_Mo_told_3 (by decide) ?_
  refine x_Mo_in F (tt3 227 rfl rfl) ⟨Nat.le_of_ble_eq_true rfl, Nat.le_of_ble_eq_true rfl⟩ hK hP hl.1 (Nat.le_of_ble_eq_true rfl) ⟨Nat.zero_le _, Nat.zero_le _⟩ d_Mo_told_4 ?_
  refine lv_iload_n hx hb d_Mo_told_7 rfl (lv_at hl 1 rfl) ?_
  refine lv_iconst (v := 1) hx hb d_Mo_told_8 (by decide) ?_
  refine lv_icmp_eq (tgt := 19) hx hb d_Mo_told_9 (by decide) (fun c1 => ?_) (fun c1 => ?_)
  · refine lv_iconst (v := 1) hx hb d_Mo_told_19 (by decide) ?_
    refine lv_goto (tgt := 24) hx hb d_Mo_told_20 (by decide) ?_
    refine x_Mo_goes F (tt3 230 rfl rfl) ⟨Nat.le_of_ble_eq_true rfl, Nat.le_of_ble_eq_true rfl⟩ hK hP hD hS hA hl.1 (Nat.le_of_ble_eq_true rfl) ⟨Nat.zero_le _, Nat.zero_le _⟩ d_Mo_told_24 (fun H locs hP hD hS => ?_)
    have ew : u3 σ 0 0 0 (mo_g (mo_in x 0 1) 1) = u3 σ 0 0 0 0 := by rw [h1]; simp [mo_g]
    rw [ew] at hP hD
    clear ew
    refine lv_if_ne (tgt := 32) hx hb d_Mo_told_27 (by decide) (fun c2 => ?_) (fun c2 => ?_)
    · refine lv_iload_n hx hb d_Mo_told_32 rfl (lv_at hl 1 rfl) ?_
      refine lv_if_ne (tgt := 43) hx hb d_Mo_told_33 (by decide) (fun c3 => ?_) (fun c3 => ?_)
      · refine lv_aload_n hx hb d_Mo_told_43 rfl (lv_at hl 0 rfl) ?_
        refine gf_Mo_steps F hK hP d_Mo_told_44 ?_
        exact ok_iretM F hr hlk hP hD hS (by first | (rw [if_pos c3, u3_c (by decide)]; done) | rw [if_neg c3, u3_c (by decide)]) d_Mo_told_47
      · refine lv_aload_n hx hb d_Mo_told_36 rfl (lv_at hl 0 rfl) ?_
        refine gf_Mo_bestWorth F hK hP d_Mo_told_37 ?_
        refine lv_goto (tgt := 47) hx hb d_Mo_told_40 (by decide) ?_
        exact ok_iretM F hr hlk hP hD hS (by first | (rw [if_pos c3, u3_c (by decide)]; done) | rw [if_neg c3, u3_c (by decide)]) d_Mo_told_47
    · exact absurd c2 (by rw [h1]; simp [mo_g])
  · refine lv_aload_n hx hb d_Mo_told_12 rfl (lv_at hl 0 rfl) ?_
    refine gf_Mo_found F hK hP d_Mo_told_13 ?_
    refine lv_if_eq (tgt := 23) hx hb d_Mo_told_16 (by decide) (fun c4 => ?_) (fun c4 => ?_)
    · exact absurd h2 (fun q => q.elim c1 (fun k => k c4))
    · refine lv_iconst (v := 1) hx hb d_Mo_told_19 (by decide) ?_
      refine lv_goto (tgt := 24) hx hb d_Mo_told_20 (by decide) ?_
      refine x_Mo_goes F (tt3 230 rfl rfl) ⟨Nat.le_of_ble_eq_true rfl, Nat.le_of_ble_eq_true rfl⟩ hK hP hD hS hA hl.1 (Nat.le_of_ble_eq_true rfl) ⟨Nat.zero_le _, Nat.zero_le _⟩ d_Mo_told_24 (fun H locs hP hD hS => ?_)
      have ew : u3 σ 0 0 0 (mo_g (mo_in x 0 1) 1) = u3 σ 0 0 0 0 := by rw [h1]; simp [mo_g]
      rw [ew] at hP hD
      clear ew
      refine lv_if_ne (tgt := 32) hx hb d_Mo_told_27 (by decide) (fun c5 => ?_) (fun c5 => ?_)
      · refine lv_iload_n hx hb d_Mo_told_32 rfl (lv_at hl 1 rfl) ?_
        refine lv_if_ne (tgt := 43) hx hb d_Mo_told_33 (by decide) (fun c6 => ?_) (fun c6 => ?_)
        · refine lv_aload_n hx hb d_Mo_told_43 rfl (lv_at hl 0 rfl) ?_
          refine gf_Mo_steps F hK hP d_Mo_told_44 ?_
          exact ok_iretM F hr hlk hP hD hS (by first | (rw [if_pos c6, u3_c (by decide)]; done) | rw [if_neg c6, u3_c (by decide)]) d_Mo_told_47
        · refine lv_aload_n hx hb d_Mo_told_36 rfl (lv_at hl 0 rfl) ?_
          refine gf_Mo_bestWorth F hK hP d_Mo_told_37 ?_
          refine lv_goto (tgt := 47) hx hb d_Mo_told_40 (by decide) ?_
          exact ok_iretM F hr hlk hP hD hS (by first | (rw [if_pos c6, u3_c (by decide)]; done) | rw [if_neg c6, u3_c (by decide)]) d_Mo_told_47
      · exact absurd c5 (by rw [h1]; simp [mo_g])
theorem x_Mo_told {σ : oS} {x : Int32} (h1 : mo_in x 0 1 = 1) (h2 : x = 1 ∨ ¬ σ 7 0 0 = 0) (F : CallFix p m c cc nL s args (cw :: tt) own) (hG : Cond.methodLink own index y_Mo_told ∈ tt) (hR : 1 + 1 ≤ R.frames ∧ 8 + (2 + 11) + 22 ≤ R.locals) (hK : va_K D vwCl (mt cI cZ) s) (hP : va_P D vwCl (mw cI cZ ad σ) H) (hD : va_D A (mw cI cZ ad σ)) (hS : va_S A H0 H locs) (hA : ∀ q, H0.size ≤ q → A q) (hsz : ls.size = nL) (hW : (rest.map fun v => v.category).sum ≤ 8) (hcs : cells ≤ R.cells ∧ slots ≤ R.slots) (hdg : decode cc pc = .ok (.invokevirtual index, 3)) (kk : ∀ (H1 : Heap) (locs1 : List Loc), va_P D vwCl (mw cI cZ ad (u3 σ 0 0 0 0)) H1 → va_D A (mw cI cZ ad (u3 σ 0 0 0 0)) → va_S A H0 H1 locs1 → W p l e R s m args below meth c H1 locs1 cells slots Q (F0 m (pc + 3) ls (.int (if x = 0 then σ 9 0 0 else σ 8 0 0) :: rest))) : W p l e R s m args below meth c H locs cells slots Q (F0 m pc ls (.int x :: .ref (ad 0) :: rest)) :=
  ok_VM (As := [.int x]) F (c_Mo_told σ h1 h2) 1 (tt_V hG i_Mo_told l_Mo_told in9_Mo k_Mo_told) rfl ⟨rfl, rfl⟩ (by decide +kernel) hR hK hP hD hS hA (0) 6 rfl rfl mw_0 rfl hsz rfl hW hcs hdg kk
set_option maxHeartbeats 4000000 in
set_option maxRecDepth 100000 in
theorem c_Mo_told_1 (σ : oS) {x : Int32} (h1 : mo_in x 0 1 = 0) : ok_MM l y_Mo_told (Cond.code y_Mo_told b_Mo_told 2 (some .int) :: tt) { frames := 1, cells := 0, slots := 0, locals := 22 } D vwCl (mt cI cZ) (mw cI cZ ad σ) (mw cI cZ ad (u3 σ 0 0 0 1)) [.ref (ad 0), .int x] (some (.int 0)) := by
  refine ok_startM (cc := b_Mo_told) (own := RMo) (maxL := 2) (ret := (some .int)) (by decide +kernel) rfl rfl (Nat.le_of_ble_eq_true rfl) ?_
  intro p e s m below meth c A F hr hlk hA hP hK hD hS ls hl
  have hl : lv_has ls 2 [(0, .ref (ad 0)), (1, .int x)] := hl
  have hx := F.1
  have hb := F.2.1
  refine lv_aload_n hx hb d_Mo_told_0 rfl (lv_at hl 0 rfl) ?_
  refine lv_iload_n hx hb d_Mo_told_1 rfl (lv_at hl 1 rfl) ?_
  refine lv_iconst (v := 0) hx hb d_Mo_told_2 (by decide) ?_
  refine lv_iconst (v := 1) hx hb d_Mo_told_3 (by decide) ?_
  refine x_Mo_in F (tt3 227 rfl rfl) ⟨Nat.le_of_ble_eq_true rfl, Nat.le_of_ble_eq_true rfl⟩ hK hP hl.1 (Nat.le_of_ble_eq_true rfl) ⟨Nat.zero_le _, Nat.zero_le _⟩ d_Mo_told_4 ?_
  refine lv_iload_n hx hb d_Mo_told_7 rfl (lv_at hl 1 rfl) ?_
  refine lv_iconst (v := 1) hx hb d_Mo_told_8 (by decide) ?_
  refine lv_icmp_eq (tgt := 19) hx hb d_Mo_told_9 (by decide) (fun c1 => ?_) (fun c1 => ?_)
  · refine lv_iconst (v := 1) hx hb d_Mo_told_19 (by decide) ?_
    refine lv_goto (tgt := 24) hx hb d_Mo_told_20 (by decide) ?_
    refine x_Mo_goes F (tt3 230 rfl rfl) ⟨Nat.le_of_ble_eq_true rfl, Nat.le_of_ble_eq_true rfl⟩ hK hP hD hS hA hl.1 (Nat.le_of_ble_eq_true rfl) ⟨Nat.zero_le _, Nat.zero_le _⟩ d_Mo_told_24 (fun H locs hP hD hS => ?_)
    have ew : u3 σ 0 0 0 (mo_g (mo_in x 0 1) 1) = u3 σ 0 0 0 1 := by rw [h1]; simp [mo_g]
    rw [ew] at hP hD
    clear ew
    refine lv_if_ne (tgt := 32) hx hb d_Mo_told_27 (by decide) (fun c2 => ?_) (fun c2 => ?_)
    · exact absurd (by rw [h1]; simp [mo_g]) c2
    · refine lv_iconst (v := 0) hx hb d_Mo_told_30 (by decide) ?_
      exact ok_iretM F hr hlk hP hD hS (rfl) d_Mo_told_31
  · refine lv_aload_n hx hb d_Mo_told_12 rfl (lv_at hl 0 rfl) ?_
    refine gf_Mo_found F hK hP d_Mo_told_13 ?_
    refine lv_if_eq (tgt := 23) hx hb d_Mo_told_16 (by decide) (fun c3 => ?_) (fun c3 => ?_)
    · refine lv_iconst (v := 0) hx hb d_Mo_told_23 (by decide) ?_
      refine x_Mo_goes F (tt3 230 rfl rfl) ⟨Nat.le_of_ble_eq_true rfl, Nat.le_of_ble_eq_true rfl⟩ hK hP hD hS hA hl.1 (Nat.le_of_ble_eq_true rfl) ⟨Nat.zero_le _, Nat.zero_le _⟩ d_Mo_told_24 (fun H locs hP hD hS => ?_)
      have ew : u3 σ 0 0 0 (mo_g (mo_in x 0 1) 0) = u3 σ 0 0 0 1 := by rw [h1]; simp [mo_g]
      rw [ew] at hP hD
      clear ew
      refine lv_if_ne (tgt := 32) hx hb d_Mo_told_27 (by decide) (fun c4 => ?_) (fun c4 => ?_)
      · exact absurd (by rw [h1]; simp [mo_g]) c4
      · refine lv_iconst (v := 0) hx hb d_Mo_told_30 (by decide) ?_
        exact ok_iretM F hr hlk hP hD hS (rfl) d_Mo_told_31
    · refine lv_iconst (v := 1) hx hb d_Mo_told_19 (by decide) ?_
      refine lv_goto (tgt := 24) hx hb d_Mo_told_20 (by decide) ?_
      refine x_Mo_goes F (tt3 230 rfl rfl) ⟨Nat.le_of_ble_eq_true rfl, Nat.le_of_ble_eq_true rfl⟩ hK hP hD hS hA hl.1 (Nat.le_of_ble_eq_true rfl) ⟨Nat.zero_le _, Nat.zero_le _⟩ d_Mo_told_24 (fun H locs hP hD hS => ?_)
      have ew : u3 σ 0 0 0 (mo_g (mo_in x 0 1) 1) = u3 σ 0 0 0 1 := by rw [h1]; simp [mo_g]
      rw [ew] at hP hD
      clear ew
      refine lv_if_ne (tgt := 32) hx hb d_Mo_told_27 (by decide) (fun c5 => ?_) (fun c5 => ?_)
      · exact absurd (by rw [h1]; simp [mo_g]) c5
      · refine lv_iconst (v := 0) hx hb d_Mo_told_30 (by decide) ?_
        exact ok_iretM F hr hlk hP hD hS (rfl) d_Mo_told_31
theorem x_Mo_told_1 {σ : oS} {x : Int32} (h1 : mo_in x 0 1 = 0) (F : CallFix p m c cc nL s args (cw :: tt) own) (hG : Cond.methodLink own index y_Mo_told ∈ tt) (hR : 1 + 1 ≤ R.frames ∧ 8 + (2 + 11) + 22 ≤ R.locals) (hK : va_K D vwCl (mt cI cZ) s) (hP : va_P D vwCl (mw cI cZ ad σ) H) (hD : va_D A (mw cI cZ ad σ)) (hS : va_S A H0 H locs) (hA : ∀ q, H0.size ≤ q → A q) (hsz : ls.size = nL) (hW : (rest.map fun v => v.category).sum ≤ 8) (hcs : cells ≤ R.cells ∧ slots ≤ R.slots) (hdg : decode cc pc = .ok (.invokevirtual index, 3)) (kk : ∀ (H1 : Heap) (locs1 : List Loc), va_P D vwCl (mw cI cZ ad (u3 σ 0 0 0 1)) H1 → va_D A (mw cI cZ ad (u3 σ 0 0 0 1)) → va_S A H0 H1 locs1 → W p l e R s m args below meth c H1 locs1 cells slots Q (F0 m (pc + 3) ls (.int 0 :: rest))) : W p l e R s m args below meth c H locs cells slots Q (F0 m pc ls (.int x :: .ref (ad 0) :: rest)) :=
  ok_VM (As := [.int x]) F (c_Mo_told_1 σ h1) 1 (tt_V hG i_Mo_told l_Mo_told in9_Mo k_Mo_told) rfl ⟨rfl, rfl⟩ (by decide +kernel) hR hK hP hD hS hA (0) 6 rfl rfl mw_0 rfl hsz rfl hW hcs hdg kk
set_option maxHeartbeats 4000000 in
set_option maxRecDepth 100000 in
theorem c_Mo_told_2 (σ : oS) {x : Int32} (h1 : mo_in x 0 1 = 1) (h2 : ¬ x = 1) (h3 : σ 7 0 0 = 0) : ok_MM l y_Mo_told (Cond.code y_Mo_told b_Mo_told 2 (some .int) :: tt) { frames := 1, cells := 0, slots := 0, locals := 22 } D vwCl (mt cI cZ) (mw cI cZ ad σ) (mw cI cZ ad (u3 σ 0 0 0 2)) [.ref (ad 0), .int x] (some (.int 0)) := by
  refine ok_startM (cc := b_Mo_told) (own := RMo) (maxL := 2) (ret := (some .int)) (by decide +kernel) rfl rfl (Nat.le_of_ble_eq_true rfl) ?_
  intro p e s m below meth c A F hr hlk hA hP hK hD hS ls hl
  have hl : lv_has ls 2 [(0, .ref (ad 0)), (1, .int x)] := hl
  have hx := F.1
  have hb := F.2.1
  refine lv_aload_n hx hb d_Mo_told_0 rfl (lv_at hl 0 rfl) ?_
  refine lv_iload_n hx hb d_Mo_told_1 rfl (lv_at hl 1 rfl) ?_
  refine lv_iconst (v := 0) hx hb d_Mo_told_2 (by decide) ?_
  refine lv_iconst (v := 1) hx hb d_Mo_told_3 (by decide) ?_
  refine x_Mo_in F (tt3 227 rfl rfl) ⟨Nat.le_of_ble_eq_true rfl, Nat.le_of_ble_eq_true rfl⟩ hK hP hl.1 (Nat.le_of_ble_eq_true rfl) ⟨Nat.zero_le _, Nat.zero_le _⟩ d_Mo_told_4 ?_
  refine lv_iload_n hx hb d_Mo_told_7 rfl (lv_at hl 1 rfl) ?_
  refine lv_iconst (v := 1) hx hb d_Mo_told_8 (by decide) ?_
  refine lv_icmp_eq (tgt := 19) hx hb d_Mo_told_9 (by decide) (fun c1 => ?_) (fun c1 => ?_)
  · first | exact absurd c1 h2 | exact absurd h3 c1
  · refine lv_aload_n hx hb d_Mo_told_12 rfl (lv_at hl 0 rfl) ?_
    refine gf_Mo_found F hK hP d_Mo_told_13 ?_
    refine lv_if_eq (tgt := 23) hx hb d_Mo_told_16 (by decide) (fun c2 => ?_) (fun c2 => ?_)
    · refine lv_iconst (v := 0) hx hb d_Mo_told_23 (by decide) ?_
      refine x_Mo_goes F (tt3 230 rfl rfl) ⟨Nat.le_of_ble_eq_true rfl, Nat.le_of_ble_eq_true rfl⟩ hK hP hD hS hA hl.1 (Nat.le_of_ble_eq_true rfl) ⟨Nat.zero_le _, Nat.zero_le _⟩ d_Mo_told_24 (fun H locs hP hD hS => ?_)
      have ew : u3 σ 0 0 0 (mo_g (mo_in x 0 1) 0) = u3 σ 0 0 0 2 := by rw [h1]; simp [mo_g]
      rw [ew] at hP hD
      clear ew
      refine lv_if_ne (tgt := 32) hx hb d_Mo_told_27 (by decide) (fun c3 => ?_) (fun c3 => ?_)
      · exact absurd (by rw [h1]; simp [mo_g]) c3
      · refine lv_iconst (v := 0) hx hb d_Mo_told_30 (by decide) ?_
        exact ok_iretM F hr hlk hP hD hS (rfl) d_Mo_told_31
    · first | exact absurd c2 h2 | exact absurd h3 c2
theorem x_Mo_told_2 {σ : oS} {x : Int32} (h1 : mo_in x 0 1 = 1) (h2 : ¬ x = 1) (h3 : σ 7 0 0 = 0) (F : CallFix p m c cc nL s args (cw :: tt) own) (hG : Cond.methodLink own index y_Mo_told ∈ tt) (hR : 1 + 1 ≤ R.frames ∧ 8 + (2 + 11) + 22 ≤ R.locals) (hK : va_K D vwCl (mt cI cZ) s) (hP : va_P D vwCl (mw cI cZ ad σ) H) (hD : va_D A (mw cI cZ ad σ)) (hS : va_S A H0 H locs) (hA : ∀ q, H0.size ≤ q → A q) (hsz : ls.size = nL) (hW : (rest.map fun v => v.category).sum ≤ 8) (hcs : cells ≤ R.cells ∧ slots ≤ R.slots) (hdg : decode cc pc = .ok (.invokevirtual index, 3)) (kk : ∀ (H1 : Heap) (locs1 : List Loc), va_P D vwCl (mw cI cZ ad (u3 σ 0 0 0 2)) H1 → va_D A (mw cI cZ ad (u3 σ 0 0 0 2)) → va_S A H0 H1 locs1 → W p l e R s m args below meth c H1 locs1 cells slots Q (F0 m (pc + 3) ls (.int 0 :: rest))) : W p l e R s m args below meth c H locs cells slots Q (F0 m pc ls (.int x :: .ref (ad 0) :: rest)) :=
  ok_VM (As := [.int x]) F (c_Mo_told_2 σ h1 h2 h3) 1 (tt_V hG i_Mo_told l_Mo_told in9_Mo k_Mo_told) rfl ⟨rfl, rfl⟩ (by decide +kernel) hR hK hP hD hS hA (0) 6 rfl rfl mw_0 rfl hsz rfl hW hcs hdg kk
set_option maxHeartbeats 4000000 in
set_option maxRecDepth 100000 in
theorem c_Mo_value (σ : oS) {x : Int32} {j : Nat} (hj : x = nI j) (hj9 : j < 5) (h1 : mo_in x 0 (σ 1 0 0 - 1) = 1) (h2 : σ 7 0 0 = 1) : ok_MM l y_Mo_value (Cond.code y_Mo_value b_Mo_value 2 (some .int) :: tt) { frames := 2, cells := 0, slots := 0, locals := 43 } D vwCl (mt cI cZ) (mw cI cZ ad σ) (mw cI cZ ad (u3 σ 0 0 0 0)) [.ref (ad 0), .int x] (some (.int (σ 21 0 j))) := by
  refine ok_startM (cc := b_Mo_value) (own := RMo) (maxL := 2) (ret := (some .int)) (by decide +kernel) rfl rfl (Nat.le_of_ble_eq_true rfl) ?_
  intro p e s m below meth c A F hr hlk hA hP hK hD hS ls hl
  have hl : lv_has ls 2 [(0, .ref (ad 0)), (1, .int x)] := hl
  have hx := F.1
  have hb := F.2.1
  refine lv_aload_n hx hb d_Mo_value_0 rfl (lv_at hl 0 rfl) ?_
  refine lv_aload_n hx hb d_Mo_value_1 rfl (lv_at hl 0 rfl) ?_
  refine lv_iload_n hx hb d_Mo_value_2 rfl (lv_at hl 1 rfl) ?_
  refine x_Mo_isColumn F (tt4 14 rfl rfl) ⟨Nat.le_of_ble_eq_true rfl, Nat.le_of_ble_eq_true rfl⟩ hK hP hl.1 (Nat.le_of_ble_eq_true rfl) ⟨Nat.zero_le _, Nat.zero_le _⟩ d_Mo_value_3 ?_
  refine lv_aload_n hx hb d_Mo_value_6 rfl (lv_at hl 0 rfl) ?_
  refine gf_Mo_found F hK hP d_Mo_value_7 ?_
  refine x_Mo_goes F (tt3 230 rfl rfl) ⟨Nat.le_of_ble_eq_true rfl, Nat.le_of_ble_eq_true rfl⟩ hK hP hD hS hA hl.1 (Nat.le_of_ble_eq_true rfl) ⟨Nat.zero_le _, Nat.zero_le _⟩ d_Mo_value_10 (fun H locs hP hD hS => ?_)
  have ew : u3 σ 0 0 0 (mo_g (mo_in x 0 (σ 1 0 0 - 1)) (σ 7 0 0)) = u3 σ 0 0 0 0 := by rw [h1, h2]; simp [mo_g]
  rw [ew] at hP hD
  clear ew
  refine lv_if_ne (tgt := 18) hx hb d_Mo_value_13 (by decide) (fun c1 => ?_) (fun c1 => ?_)
  · refine lv_aload_n hx hb d_Mo_value_18 rfl (lv_at hl 0 rfl) ?_
    refine gf_Mo_best F hK hP d_Mo_value_19 ?_
    refine lv_iload_n hx hb d_Mo_value_22 rfl (lv_at hl 1 rfl) ?_
    refine im_21 (j := j) F hK hP hj (by omega) d_Mo_value_23 ?_
    exact ok_iretM F hr hlk hP hD hS (by rw [u3_c (by decide)]) d_Mo_value_24
  · exact absurd c1 (by rw [h1, h2]; simp [mo_g])
theorem x_Mo_value {σ : oS} {x : Int32} {j : Nat} (hj : x = nI j) (hj9 : j < 5) (h1 : mo_in x 0 (σ 1 0 0 - 1) = 1) (h2 : σ 7 0 0 = 1) (F : CallFix p m c cc nL s args (cw :: tt) own) (hG : Cond.methodLink own index y_Mo_value ∈ tt) (hR : 2 + 1 ≤ R.frames ∧ 8 + (2 + 11) + 43 ≤ R.locals) (hK : va_K D vwCl (mt cI cZ) s) (hP : va_P D vwCl (mw cI cZ ad σ) H) (hD : va_D A (mw cI cZ ad σ)) (hS : va_S A H0 H locs) (hA : ∀ q, H0.size ≤ q → A q) (hsz : ls.size = nL) (hW : (rest.map fun v => v.category).sum ≤ 8) (hcs : cells ≤ R.cells ∧ slots ≤ R.slots) (hdg : decode cc pc = .ok (.invokevirtual index, 3)) (kk : ∀ (H1 : Heap) (locs1 : List Loc), va_P D vwCl (mw cI cZ ad (u3 σ 0 0 0 0)) H1 → va_D A (mw cI cZ ad (u3 σ 0 0 0 0)) → va_S A H0 H1 locs1 → W p l e R s m args below meth c H1 locs1 cells slots Q (F0 m (pc + 3) ls (.int (σ 21 0 j) :: rest))) : W p l e R s m args below meth c H locs cells slots Q (F0 m pc ls (.int x :: .ref (ad 0) :: rest)) :=
  ok_VM (As := [.int x]) F (c_Mo_value σ hj hj9 h1 h2) 1 (tt_V hG i_Mo_value l_Mo_value in9_Mo k_Mo_value) rfl ⟨rfl, rfl⟩ (by decide +kernel) hR hK hP hD hS hA (0) 6 rfl rfl mw_0 rfl hsz rfl hW hcs hdg kk
set_option maxHeartbeats 4000000 in
set_option maxRecDepth 100000 in
theorem c_Mo_value_1 (σ : oS) {x : Int32} (h1 : mo_in x 0 (σ 1 0 0 - 1) = 0) : ok_MM l y_Mo_value (Cond.code y_Mo_value b_Mo_value 2 (some .int) :: tt) { frames := 2, cells := 0, slots := 0, locals := 43 } D vwCl (mt cI cZ) (mw cI cZ ad σ) (mw cI cZ ad (u3 σ 0 0 0 1)) [.ref (ad 0), .int x] (some (.int 0)) := by
  refine ok_startM (cc := b_Mo_value) (own := RMo) (maxL := 2) (ret := (some .int)) (by decide +kernel) rfl rfl (Nat.le_of_ble_eq_true rfl) ?_
  intro p e s m below meth c A F hr hlk hA hP hK hD hS ls hl
  have hl : lv_has ls 2 [(0, .ref (ad 0)), (1, .int x)] := hl
  have hx := F.1
  have hb := F.2.1
  refine lv_aload_n hx hb d_Mo_value_0 rfl (lv_at hl 0 rfl) ?_
  refine lv_aload_n hx hb d_Mo_value_1 rfl (lv_at hl 0 rfl) ?_
  refine lv_iload_n hx hb d_Mo_value_2 rfl (lv_at hl 1 rfl) ?_
  refine x_Mo_isColumn F (tt4 14 rfl rfl) ⟨Nat.le_of_ble_eq_true rfl, Nat.le_of_ble_eq_true rfl⟩ hK hP hl.1 (Nat.le_of_ble_eq_true rfl) ⟨Nat.zero_le _, Nat.zero_le _⟩ d_Mo_value_3 ?_
  refine lv_aload_n hx hb d_Mo_value_6 rfl (lv_at hl 0 rfl) ?_
  refine gf_Mo_found F hK hP d_Mo_value_7 ?_
  refine x_Mo_goes F (tt3 230 rfl rfl) ⟨Nat.le_of_ble_eq_true rfl, Nat.le_of_ble_eq_true rfl⟩ hK hP hD hS hA hl.1 (Nat.le_of_ble_eq_true rfl) ⟨Nat.zero_le _, Nat.zero_le _⟩ d_Mo_value_10 (fun H locs hP hD hS => ?_)
  have ew : u3 σ 0 0 0 (mo_g (mo_in x 0 (σ 1 0 0 - 1)) (σ 7 0 0)) = u3 σ 0 0 0 1 := by rw [h1]; simp [mo_g]
  rw [ew] at hP hD
  clear ew
  refine lv_if_ne (tgt := 18) hx hb d_Mo_value_13 (by decide) (fun c1 => ?_) (fun c1 => ?_)
  · exact absurd (by rw [h1]; simp [mo_g]) c1
  · refine lv_iconst (v := 0) hx hb d_Mo_value_16 (by decide) ?_
    exact ok_iretM F hr hlk hP hD hS (rfl) d_Mo_value_17
theorem x_Mo_value_1 {σ : oS} {x : Int32} (h1 : mo_in x 0 (σ 1 0 0 - 1) = 0) (F : CallFix p m c cc nL s args (cw :: tt) own) (hG : Cond.methodLink own index y_Mo_value ∈ tt) (hR : 2 + 1 ≤ R.frames ∧ 8 + (2 + 11) + 43 ≤ R.locals) (hK : va_K D vwCl (mt cI cZ) s) (hP : va_P D vwCl (mw cI cZ ad σ) H) (hD : va_D A (mw cI cZ ad σ)) (hS : va_S A H0 H locs) (hA : ∀ q, H0.size ≤ q → A q) (hsz : ls.size = nL) (hW : (rest.map fun v => v.category).sum ≤ 8) (hcs : cells ≤ R.cells ∧ slots ≤ R.slots) (hdg : decode cc pc = .ok (.invokevirtual index, 3)) (kk : ∀ (H1 : Heap) (locs1 : List Loc), va_P D vwCl (mw cI cZ ad (u3 σ 0 0 0 1)) H1 → va_D A (mw cI cZ ad (u3 σ 0 0 0 1)) → va_S A H0 H1 locs1 → W p l e R s m args below meth c H1 locs1 cells slots Q (F0 m (pc + 3) ls (.int 0 :: rest))) : W p l e R s m args below meth c H locs cells slots Q (F0 m pc ls (.int x :: .ref (ad 0) :: rest)) :=
  ok_VM (As := [.int x]) F (c_Mo_value_1 σ h1) 1 (tt_V hG i_Mo_value l_Mo_value in9_Mo k_Mo_value) rfl ⟨rfl, rfl⟩ (by decide +kernel) hR hK hP hD hS hA (0) 6 rfl rfl mw_0 rfl hsz rfl hW hcs hdg kk
set_option maxHeartbeats 4000000 in
set_option maxRecDepth 100000 in
theorem c_Mo_value_2 (σ : oS) {x : Int32} (h1 : mo_in x 0 (σ 1 0 0 - 1) = 1) (h2 : σ 7 0 0 = 0) : ok_MM l y_Mo_value (Cond.code y_Mo_value b_Mo_value 2 (some .int) :: tt) { frames := 2, cells := 0, slots := 0, locals := 43 } D vwCl (mt cI cZ) (mw cI cZ ad σ) (mw cI cZ ad (u3 σ 0 0 0 2)) [.ref (ad 0), .int x] (some (.int 0)) := by
  refine ok_startM (cc := b_Mo_value) (own := RMo) (maxL := 2) (ret := (some .int)) (by decide +kernel) rfl rfl (Nat.le_of_ble_eq_true rfl) ?_
  intro p e s m below meth c A F hr hlk hA hP hK hD hS ls hl
  have hl : lv_has ls 2 [(0, .ref (ad 0)), (1, .int x)] := hl
  have hx := F.1
  have hb := F.2.1
  refine lv_aload_n hx hb d_Mo_value_0 rfl (lv_at hl 0 rfl) ?_
  refine lv_aload_n hx hb d_Mo_value_1 rfl (lv_at hl 0 rfl) ?_
  refine lv_iload_n hx hb d_Mo_value_2 rfl (lv_at hl 1 rfl) ?_
  refine x_Mo_isColumn F (tt4 14 rfl rfl) ⟨Nat.le_of_ble_eq_true rfl, Nat.le_of_ble_eq_true rfl⟩ hK hP hl.1 (Nat.le_of_ble_eq_true rfl) ⟨Nat.zero_le _, Nat.zero_le _⟩ d_Mo_value_3 ?_
  refine lv_aload_n hx hb d_Mo_value_6 rfl (lv_at hl 0 rfl) ?_
  refine gf_Mo_found F hK hP d_Mo_value_7 ?_
  refine x_Mo_goes F (tt3 230 rfl rfl) ⟨Nat.le_of_ble_eq_true rfl, Nat.le_of_ble_eq_true rfl⟩ hK hP hD hS hA hl.1 (Nat.le_of_ble_eq_true rfl) ⟨Nat.zero_le _, Nat.zero_le _⟩ d_Mo_value_10 (fun H locs hP hD hS => ?_)
  have ew : u3 σ 0 0 0 (mo_g (mo_in x 0 (σ 1 0 0 - 1)) (σ 7 0 0)) = u3 σ 0 0 0 2 := by rw [h1, h2]; simp [mo_g]
  rw [ew] at hP hD
  clear ew
  refine lv_if_ne (tgt := 18) hx hb d_Mo_value_13 (by decide) (fun c1 => ?_) (fun c1 => ?_)
  · exact absurd (by rw [h1, h2]; simp [mo_g]) c1
  · refine lv_iconst (v := 0) hx hb d_Mo_value_16 (by decide) ?_
    exact ok_iretM F hr hlk hP hD hS (rfl) d_Mo_value_17
theorem x_Mo_value_2 {σ : oS} {x : Int32} (h1 : mo_in x 0 (σ 1 0 0 - 1) = 1) (h2 : σ 7 0 0 = 0) (F : CallFix p m c cc nL s args (cw :: tt) own) (hG : Cond.methodLink own index y_Mo_value ∈ tt) (hR : 2 + 1 ≤ R.frames ∧ 8 + (2 + 11) + 43 ≤ R.locals) (hK : va_K D vwCl (mt cI cZ) s) (hP : va_P D vwCl (mw cI cZ ad σ) H) (hD : va_D A (mw cI cZ ad σ)) (hS : va_S A H0 H locs) (hA : ∀ q, H0.size ≤ q → A q) (hsz : ls.size = nL) (hW : (rest.map fun v => v.category).sum ≤ 8) (hcs : cells ≤ R.cells ∧ slots ≤ R.slots) (hdg : decode cc pc = .ok (.invokevirtual index, 3)) (kk : ∀ (H1 : Heap) (locs1 : List Loc), va_P D vwCl (mw cI cZ ad (u3 σ 0 0 0 2)) H1 → va_D A (mw cI cZ ad (u3 σ 0 0 0 2)) → va_S A H0 H1 locs1 → W p l e R s m args below meth c H1 locs1 cells slots Q (F0 m (pc + 3) ls (.int 0 :: rest))) : W p l e R s m args below meth c H locs cells slots Q (F0 m pc ls (.int x :: .ref (ad 0) :: rest)) :=
  ok_VM (As := [.int x]) F (c_Mo_value_2 σ h1 h2) 1 (tt_V hG i_Mo_value l_Mo_value in9_Mo k_Mo_value) rfl ⟨rfl, rfl⟩ (by decide +kernel) hR hK hP hD hS hA (0) 6 rfl rfl mw_0 rfl hsz rfl hW hcs hdg kk
set_option maxHeartbeats 4000000 in
set_option maxRecDepth 100000 in
theorem c_Mo_multiplier (σ : oS) {r : Nat} {u : Nat} (h_r : σ 2 0 0 = nI r) (h_u : σ 3 0 0 = nI u) (hr4 : r ≤ 4) (hu4 : u ≤ 4) {x : Int32} {k : Nat} (hk : x = nI k) (hk9 : k < 8) (hk8 : k < r + u) {y : Int32} (h1 : mo_in x 0 (σ 2 0 0 + σ 3 0 0 - 1) = 1) (h2 : mo_wv σ r k y = 1) : ok_MM l y_Mo_multiplier (Cond.code y_Mo_multiplier b_Mo_multiplier 4 none :: tt) { frames := 1, cells := 0, slots := 0, locals := 22 } D vwCl (mt cI cZ) (mw cI cZ ad σ) (mw cI cZ ad (u3 (u3 σ 0 0 0 0) 17 0 k y)) [.ref (ad 0), .int x, .int y] none := by
  refine ok_startM (cc := b_Mo_multiplier) (own := RMo) (maxL := 4) (ret := none) (by decide +kernel) rfl rfl (Nat.le_of_ble_eq_true rfl) ?_
  intro p e s m below meth c A F hr hlk hA hP hK hD hS ls hl
  have hl : lv_has ls 4 [(0, .ref (ad 0)), (1, .int x), (2, .int y)] := hl
  have hx := F.1
  have hb := F.2.1
  refine lv_iload_n hx hb d_Mo_multiplier_0 rfl (lv_at hl 1 rfl) ?_
  refine lv_iconst (v := 0) hx hb d_Mo_multiplier_1 (by decide) ?_
  refine lv_aload_n hx hb d_Mo_multiplier_2 rfl (lv_at hl 0 rfl) ?_
  refine gf_Mo_rows F hK hP d_Mo_multiplier_3 ?_
  refine lv_aload_n hx hb d_Mo_multiplier_6 rfl (lv_at hl 0 rfl) ?_
  refine gf_Mo_cuts F hK hP d_Mo_multiplier_7 ?_
  refine lv_iadd hx hb d_Mo_multiplier_10 ?_
  refine lv_iconst (v := 1) hx hb d_Mo_multiplier_11 (by decide) ?_
  refine lv_isub hx hb d_Mo_multiplier_12 ?_
  refine x_Mo_in F (tt3 227 rfl rfl) ⟨Nat.le_of_ble_eq_true rfl, Nat.le_of_ble_eq_true rfl⟩ hK hP hl.1 (Nat.le_of_ble_eq_true rfl) ⟨Nat.zero_le _, Nat.zero_le _⟩ d_Mo_multiplier_13 ?_
  refine lv_istore_n (lv' := [(3, .int (mo_in x 0 (((σ 2 0 0) + (σ 3 0 0)) - 1))), (0, .ref (ad 0)), (1, .int x), (2, .int y)]) hx hb d_Mo_multiplier_16 rfl hl (by decide) rfl (fun ls hl => ?_)
  refine lv_aload_n hx hb d_Mo_multiplier_17 rfl (lv_at hl 1 rfl) ?_
  refine lv_iload_n hx hb d_Mo_multiplier_18 rfl (lv_at hl 0 rfl) ?_
  refine lv_iload_n hx hb d_Mo_multiplier_19 rfl (lv_at hl 0 rfl) ?_
  refine lv_if_eq (tgt := 58) hx hb d_Mo_multiplier_20 (by decide) (fun c1 => ?_) (fun c1 => ?_)
  · exact absurd c1 (by rw [h1]; decide)
  · refine lv_aload_n hx hb d_Mo_multiplier_23 rfl (lv_at hl 1 rfl) ?_
    refine lv_iload_n hx hb d_Mo_multiplier_24 rfl (lv_at hl 2 rfl) ?_
    refine x_Mo_kindOf (r := r) (u := u) h_r h_u hr4 hu4 (k := k) hk (by omega) (by omega) F (tt4 47 rfl rfl) ⟨Nat.le_of_ble_eq_true rfl, Nat.le_of_ble_eq_true rfl⟩ hK hP hl.1 (Nat.le_of_ble_eq_true rfl) ⟨Nat.zero_le _, Nat.zero_le _⟩ d_Mo_multiplier_25 ?_
    refine lv_if_ne (tgt := 44) hx hb d_Mo_multiplier_28 (by decide) (fun c2 => ?_) (fun c2 => ?_)
    · refine lv_iload_n hx hb d_Mo_multiplier_44 rfl (lv_at hl 3 rfl) ?_
      refine lv_ldc (v := -1000000) hx hb F.2.2.2.1 (F.2.2.2.2 (.constant RMo 129 (-1000000)) (List.mem_cons_of_mem _ (tt4 72 rfl rfl))) d_Mo_multiplier_45 ?_
      refine lv_iconst (v := 0) hx hb d_Mo_multiplier_47 (by decide) ?_
      refine x_Mo_in F (tt3 227 rfl rfl) ⟨Nat.le_of_ble_eq_true rfl, Nat.le_of_ble_eq_true rfl⟩ hK hP hl.1 (Nat.le_of_ble_eq_true rfl) ⟨Nat.zero_le _, Nat.zero_le _⟩ d_Mo_multiplier_48 ?_
      refine lv_if_eq (tgt := 58) hx hb d_Mo_multiplier_51 (by decide) (fun c3 => ?_) (fun c3 => ?_)
      · exact absurd h2 (by unfold mo_wv; first | (rw [if_pos c2, c3]; decide) | (rw [if_neg c2, c3]; decide))
      · refine lv_iconst (v := 1) hx hb d_Mo_multiplier_54 (by decide) ?_
        refine lv_goto (tgt := 59) hx hb d_Mo_multiplier_55 (by decide) ?_
        refine x_Mo_goes F (tt3 230 rfl rfl) ⟨Nat.le_of_ble_eq_true rfl, Nat.le_of_ble_eq_true rfl⟩ hK hP hD hS hA hl.1 (Nat.le_of_ble_eq_true rfl) ⟨Nat.zero_le _, Nat.zero_le _⟩ d_Mo_multiplier_59 (fun H locs hP hD hS => ?_)
        have ew : u3 σ 0 0 0 (mo_g (mo_in x 0 (((σ 2 0 0) + (σ 3 0 0)) - 1)) 1) = u3 σ 0 0 0 0 := by rw [h1]; simp [mo_g]
        rw [ew] at hP hD
        clear ew
        refine lv_if_eq (tgt := 72) hx hb d_Mo_multiplier_62 (by decide) (fun c4 => ?_) (fun c4 => ?_)
        · exact absurd c4 (by rw [h1]; simp [mo_g])
        · refine lv_aload_n hx hb d_Mo_multiplier_65 rfl (lv_at hl 1 rfl) ?_
          refine gf_Mo_multiplier F hK hP d_Mo_multiplier_66 ?_
          refine lv_iload_n hx hb d_Mo_multiplier_69 rfl (lv_at hl 2 rfl) ?_
          refine lv_iload_n hx hb d_Mo_multiplier_70 rfl (lv_at hl 3 rfl) ?_
          refine sm_17 (j := k) F hK hP hD hS hk (by omega) d_Mo_multiplier_71 (fun H locs hP hD hS => ?_)
          exact ok_vretM F hr hlk hP hD hS d_Mo_multiplier_72
    · refine lv_iload_n hx hb d_Mo_multiplier_31 rfl (lv_at hl 3 rfl) ?_
      refine lv_iconst (v := 0) hx hb d_Mo_multiplier_32 (by decide) ?_
      refine lv_ldc (v := 1000000) hx hb F.2.2.2.1 (F.2.2.2.2 (.constant RMo 128 (1000000)) (List.mem_cons_of_mem _ (tt4 71 rfl rfl))) d_Mo_multiplier_33 ?_
      refine x_Mo_in F (tt3 227 rfl rfl) ⟨Nat.le_of_ble_eq_true rfl, Nat.le_of_ble_eq_true rfl⟩ hK hP hl.1 (Nat.le_of_ble_eq_true rfl) ⟨Nat.zero_le _, Nat.zero_le _⟩ d_Mo_multiplier_35 ?_
      refine lv_if_eq (tgt := 58) hx hb d_Mo_multiplier_38 (by decide) (fun c5 => ?_) (fun c5 => ?_)
      · exact absurd h2 (by unfold mo_wv; first | (rw [if_pos c2, c5]; decide) | (rw [if_neg c2, c5]; decide))
      · refine lv_goto (tgt := 54) hx hb d_Mo_multiplier_41 (by decide) ?_
        refine lv_iconst (v := 1) hx hb d_Mo_multiplier_54 (by decide) ?_
        refine lv_goto (tgt := 59) hx hb d_Mo_multiplier_55 (by decide) ?_
        refine x_Mo_goes F (tt3 230 rfl rfl) ⟨Nat.le_of_ble_eq_true rfl, Nat.le_of_ble_eq_true rfl⟩ hK hP hD hS hA hl.1 (Nat.le_of_ble_eq_true rfl) ⟨Nat.zero_le _, Nat.zero_le _⟩ d_Mo_multiplier_59 (fun H locs hP hD hS => ?_)
        have ew : u3 σ 0 0 0 (mo_g (mo_in x 0 (((σ 2 0 0) + (σ 3 0 0)) - 1)) 1) = u3 σ 0 0 0 0 := by rw [h1]; simp [mo_g]
        rw [ew] at hP hD
        clear ew
        refine lv_if_eq (tgt := 72) hx hb d_Mo_multiplier_62 (by decide) (fun c6 => ?_) (fun c6 => ?_)
        · exact absurd c6 (by rw [h1]; simp [mo_g])
        · refine lv_aload_n hx hb d_Mo_multiplier_65 rfl (lv_at hl 1 rfl) ?_
          refine gf_Mo_multiplier F hK hP d_Mo_multiplier_66 ?_
          refine lv_iload_n hx hb d_Mo_multiplier_69 rfl (lv_at hl 2 rfl) ?_
          refine lv_iload_n hx hb d_Mo_multiplier_70 rfl (lv_at hl 3 rfl) ?_
          refine sm_17 (j := k) F hK hP hD hS hk (by omega) d_Mo_multiplier_71 (fun H locs hP hD hS => ?_)
          exact ok_vretM F hr hlk hP hD hS d_Mo_multiplier_72
theorem x_Mo_multiplier {σ : oS} {r : Nat} {u : Nat} (h_r : σ 2 0 0 = nI r) (h_u : σ 3 0 0 = nI u) (hr4 : r ≤ 4) (hu4 : u ≤ 4) {x : Int32} {k : Nat} (hk : x = nI k) (hk9 : k < 8) (hk8 : k < r + u) {y : Int32} (h1 : mo_in x 0 (σ 2 0 0 + σ 3 0 0 - 1) = 1) (h2 : mo_wv σ r k y = 1) (F : CallFix p m c cc nL s args (cw :: tt) own) (hG : Cond.methodLink own index y_Mo_multiplier ∈ tt) (hR : 1 + 1 ≤ R.frames ∧ 8 + (4 + 11) + 22 ≤ R.locals) (hK : va_K D vwCl (mt cI cZ) s) (hP : va_P D vwCl (mw cI cZ ad σ) H) (hD : va_D A (mw cI cZ ad σ)) (hS : va_S A H0 H locs) (hA : ∀ q, H0.size ≤ q → A q) (hsz : ls.size = nL) (hW : (rest.map fun v => v.category).sum ≤ 8) (hcs : cells ≤ R.cells ∧ slots ≤ R.slots) (hdg : decode cc pc = .ok (.invokevirtual index, 3)) (kk : ∀ (H1 : Heap) (locs1 : List Loc), va_P D vwCl (mw cI cZ ad (u3 (u3 σ 0 0 0 0) 17 0 k y)) H1 → va_D A (mw cI cZ ad (u3 (u3 σ 0 0 0 0) 17 0 k y)) → va_S A H0 H1 locs1 → W p l e R s m args below meth c H1 locs1 cells slots Q (F0 m (pc + 3) ls (rest))) : W p l e R s m args below meth c H locs cells slots Q (F0 m pc ls (.int y :: .int x :: .ref (ad 0) :: rest)) :=
  ok_VM (As := [.int x, .int y]) F (c_Mo_multiplier σ h_r h_u hr4 hu4 hk hk9 hk8 h1 h2) 2 (tt_V hG i_Mo_multiplier l_Mo_multiplier in9_Mo k_Mo_multiplier) rfl ⟨rfl, rfl⟩ (by decide +kernel) hR hK hP hD hS hA (0) 6 rfl rfl mw_0 rfl hsz rfl hW hcs hdg kk
set_option maxHeartbeats 4000000 in
set_option maxRecDepth 100000 in
theorem c_Mo_multiplier_1 (σ : oS) {x : Int32} {y : Int32} (h1 : mo_in x 0 (σ 2 0 0 + σ 3 0 0 - 1) = 0) : ok_MM l y_Mo_multiplier (Cond.code y_Mo_multiplier b_Mo_multiplier 4 none :: tt) { frames := 1, cells := 0, slots := 0, locals := 22 } D vwCl (mt cI cZ) (mw cI cZ ad σ) (mw cI cZ ad (u3 σ 0 0 0 1)) [.ref (ad 0), .int x, .int y] none := by
  refine ok_startM (cc := b_Mo_multiplier) (own := RMo) (maxL := 4) (ret := none) (by decide +kernel) rfl rfl (Nat.le_of_ble_eq_true rfl) ?_
  intro p e s m below meth c A F hr hlk hA hP hK hD hS ls hl
  have hl : lv_has ls 4 [(0, .ref (ad 0)), (1, .int x), (2, .int y)] := hl
  have hx := F.1
  have hb := F.2.1
  refine lv_iload_n hx hb d_Mo_multiplier_0 rfl (lv_at hl 1 rfl) ?_
  refine lv_iconst (v := 0) hx hb d_Mo_multiplier_1 (by decide) ?_
  refine lv_aload_n hx hb d_Mo_multiplier_2 rfl (lv_at hl 0 rfl) ?_
  refine gf_Mo_rows F hK hP d_Mo_multiplier_3 ?_
  refine lv_aload_n hx hb d_Mo_multiplier_6 rfl (lv_at hl 0 rfl) ?_
  refine gf_Mo_cuts F hK hP d_Mo_multiplier_7 ?_
  refine lv_iadd hx hb d_Mo_multiplier_10 ?_
  refine lv_iconst (v := 1) hx hb d_Mo_multiplier_11 (by decide) ?_
  refine lv_isub hx hb d_Mo_multiplier_12 ?_
  refine x_Mo_in F (tt3 227 rfl rfl) ⟨Nat.le_of_ble_eq_true rfl, Nat.le_of_ble_eq_true rfl⟩ hK hP hl.1 (Nat.le_of_ble_eq_true rfl) ⟨Nat.zero_le _, Nat.zero_le _⟩ d_Mo_multiplier_13 ?_
  refine lv_istore_n (lv' := [(3, .int (mo_in x 0 (((σ 2 0 0) + (σ 3 0 0)) - 1))), (0, .ref (ad 0)), (1, .int x), (2, .int y)]) hx hb d_Mo_multiplier_16 rfl hl (by decide) rfl (fun ls hl => ?_)
  refine lv_aload_n hx hb d_Mo_multiplier_17 rfl (lv_at hl 1 rfl) ?_
  refine lv_iload_n hx hb d_Mo_multiplier_18 rfl (lv_at hl 0 rfl) ?_
  refine lv_iload_n hx hb d_Mo_multiplier_19 rfl (lv_at hl 0 rfl) ?_
  refine lv_if_eq (tgt := 58) hx hb d_Mo_multiplier_20 (by decide) (fun c1 => ?_) (fun c1 => ?_)
  · refine lv_iconst (v := 0) hx hb d_Mo_multiplier_58 (by decide) ?_
    refine x_Mo_goes F (tt3 230 rfl rfl) ⟨Nat.le_of_ble_eq_true rfl, Nat.le_of_ble_eq_true rfl⟩ hK hP hD hS hA hl.1 (Nat.le_of_ble_eq_true rfl) ⟨Nat.zero_le _, Nat.zero_le _⟩ d_Mo_multiplier_59 (fun H locs hP hD hS => ?_)
    have ew : u3 σ 0 0 0 (mo_g (mo_in x 0 (((σ 2 0 0) + (σ 3 0 0)) - 1)) 0) = u3 σ 0 0 0 1 := by rw [h1]; simp [mo_g]
    rw [ew] at hP hD
    clear ew
    refine lv_if_eq (tgt := 72) hx hb d_Mo_multiplier_62 (by decide) (fun c2 => ?_) (fun c2 => ?_)
    · exact ok_vretM F hr hlk hP hD hS d_Mo_multiplier_72
    · exact absurd (by rw [h1]; simp [mo_g]) c2
  · exact absurd h1 c1
theorem x_Mo_multiplier_1 {σ : oS} {x : Int32} {y : Int32} (h1 : mo_in x 0 (σ 2 0 0 + σ 3 0 0 - 1) = 0) (F : CallFix p m c cc nL s args (cw :: tt) own) (hG : Cond.methodLink own index y_Mo_multiplier ∈ tt) (hR : 1 + 1 ≤ R.frames ∧ 8 + (4 + 11) + 22 ≤ R.locals) (hK : va_K D vwCl (mt cI cZ) s) (hP : va_P D vwCl (mw cI cZ ad σ) H) (hD : va_D A (mw cI cZ ad σ)) (hS : va_S A H0 H locs) (hA : ∀ q, H0.size ≤ q → A q) (hsz : ls.size = nL) (hW : (rest.map fun v => v.category).sum ≤ 8) (hcs : cells ≤ R.cells ∧ slots ≤ R.slots) (hdg : decode cc pc = .ok (.invokevirtual index, 3)) (kk : ∀ (H1 : Heap) (locs1 : List Loc), va_P D vwCl (mw cI cZ ad (u3 σ 0 0 0 1)) H1 → va_D A (mw cI cZ ad (u3 σ 0 0 0 1)) → va_S A H0 H1 locs1 → W p l e R s m args below meth c H1 locs1 cells slots Q (F0 m (pc + 3) ls (rest))) : W p l e R s m args below meth c H locs cells slots Q (F0 m pc ls (.int y :: .int x :: .ref (ad 0) :: rest)) :=
  ok_VM (As := [.int x, .int y]) F (c_Mo_multiplier_1 σ h1) 2 (tt_V hG i_Mo_multiplier l_Mo_multiplier in9_Mo k_Mo_multiplier) rfl ⟨rfl, rfl⟩ (by decide +kernel) hR hK hP hD hS hA (0) 6 rfl rfl mw_0 rfl hsz rfl hW hcs hdg kk
set_option maxHeartbeats 4000000 in
set_option maxRecDepth 100000 in
theorem c_Mo_multiplier_2 (σ : oS) {r : Nat} {u : Nat} (h_r : σ 2 0 0 = nI r) (h_u : σ 3 0 0 = nI u) (hr4 : r ≤ 4) (hu4 : u ≤ 4) {x : Int32} {k : Nat} (hk : x = nI k) (hk9 : k < 8) (hk8 : k < r + u) {y : Int32} (h1 : mo_in x 0 (σ 2 0 0 + σ 3 0 0 - 1) = 1) (h2 : mo_wv σ r k y = 0) : ok_MM l y_Mo_multiplier (Cond.code y_Mo_multiplier b_Mo_multiplier 4 none :: tt) { frames := 1, cells := 0, slots := 0, locals := 22 } D vwCl (mt cI cZ) (mw cI cZ ad σ) (mw cI cZ ad (u3 σ 0 0 0 2)) [.ref (ad 0), .int x, .int y] none := by
  refine ok_startM (cc := b_Mo_multiplier) (own := RMo) (maxL := 4) (ret := none) (by decide +kernel) rfl rfl (Nat.le_of_ble_eq_true rfl) ?_
  intro p e s m below meth c A F hr hlk hA hP hK hD hS ls hl
  have hl : lv_has ls 4 [(0, .ref (ad 0)), (1, .int x), (2, .int y)] := hl
  have hx := F.1
  have hb := F.2.1
  refine lv_iload_n hx hb d_Mo_multiplier_0 rfl (lv_at hl 1 rfl) ?_
  refine lv_iconst (v := 0) hx hb d_Mo_multiplier_1 (by decide) ?_
  refine lv_aload_n hx hb d_Mo_multiplier_2 rfl (lv_at hl 0 rfl) ?_
  refine gf_Mo_rows F hK hP d_Mo_multiplier_3 ?_
  refine lv_aload_n hx hb d_Mo_multiplier_6 rfl (lv_at hl 0 rfl) ?_
  refine gf_Mo_cuts F hK hP d_Mo_multiplier_7 ?_
  refine lv_iadd hx hb d_Mo_multiplier_10 ?_
  refine lv_iconst (v := 1) hx hb d_Mo_multiplier_11 (by decide) ?_
  refine lv_isub hx hb d_Mo_multiplier_12 ?_
  refine x_Mo_in F (tt3 227 rfl rfl) ⟨Nat.le_of_ble_eq_true rfl, Nat.le_of_ble_eq_true rfl⟩ hK hP hl.1 (Nat.le_of_ble_eq_true rfl) ⟨Nat.zero_le _, Nat.zero_le _⟩ d_Mo_multiplier_13 ?_
  refine lv_istore_n (lv' := [(3, .int (mo_in x 0 (((σ 2 0 0) + (σ 3 0 0)) - 1))), (0, .ref (ad 0)), (1, .int x), (2, .int y)]) hx hb d_Mo_multiplier_16 rfl hl (by decide) rfl (fun ls hl => ?_)
  refine lv_aload_n hx hb d_Mo_multiplier_17 rfl (lv_at hl 1 rfl) ?_
  refine lv_iload_n hx hb d_Mo_multiplier_18 rfl (lv_at hl 0 rfl) ?_
  refine lv_iload_n hx hb d_Mo_multiplier_19 rfl (lv_at hl 0 rfl) ?_
  refine lv_if_eq (tgt := 58) hx hb d_Mo_multiplier_20 (by decide) (fun c1 => ?_) (fun c1 => ?_)
  · refine lv_iconst (v := 0) hx hb d_Mo_multiplier_58 (by decide) ?_
    refine x_Mo_goes F (tt3 230 rfl rfl) ⟨Nat.le_of_ble_eq_true rfl, Nat.le_of_ble_eq_true rfl⟩ hK hP hD hS hA hl.1 (Nat.le_of_ble_eq_true rfl) ⟨Nat.zero_le _, Nat.zero_le _⟩ d_Mo_multiplier_59 (fun H locs hP hD hS => ?_)
    have ew : u3 σ 0 0 0 (mo_g (mo_in x 0 (((σ 2 0 0) + (σ 3 0 0)) - 1)) 0) = u3 σ 0 0 0 2 := by rw [h1]; simp [mo_g]
    rw [ew] at hP hD
    clear ew
    refine lv_if_eq (tgt := 72) hx hb d_Mo_multiplier_62 (by decide) (fun c2 => ?_) (fun c2 => ?_)
    · exact ok_vretM F hr hlk hP hD hS d_Mo_multiplier_72
    · exact absurd (by rw [h1]; simp [mo_g]) c2
  · refine lv_aload_n hx hb d_Mo_multiplier_23 rfl (lv_at hl 1 rfl) ?_
    refine lv_iload_n hx hb d_Mo_multiplier_24 rfl (lv_at hl 2 rfl) ?_
    refine x_Mo_kindOf (r := r) (u := u) h_r h_u hr4 hu4 (k := k) hk (by omega) (by omega) F (tt4 47 rfl rfl) ⟨Nat.le_of_ble_eq_true rfl, Nat.le_of_ble_eq_true rfl⟩ hK hP hl.1 (Nat.le_of_ble_eq_true rfl) ⟨Nat.zero_le _, Nat.zero_le _⟩ d_Mo_multiplier_25 ?_
    refine lv_if_ne (tgt := 44) hx hb d_Mo_multiplier_28 (by decide) (fun c3 => ?_) (fun c3 => ?_)
    · refine lv_iload_n hx hb d_Mo_multiplier_44 rfl (lv_at hl 3 rfl) ?_
      refine lv_ldc (v := -1000000) hx hb F.2.2.2.1 (F.2.2.2.2 (.constant RMo 129 (-1000000)) (List.mem_cons_of_mem _ (tt4 72 rfl rfl))) d_Mo_multiplier_45 ?_
      refine lv_iconst (v := 0) hx hb d_Mo_multiplier_47 (by decide) ?_
      refine x_Mo_in F (tt3 227 rfl rfl) ⟨Nat.le_of_ble_eq_true rfl, Nat.le_of_ble_eq_true rfl⟩ hK hP hl.1 (Nat.le_of_ble_eq_true rfl) ⟨Nat.zero_le _, Nat.zero_le _⟩ d_Mo_multiplier_48 ?_
      refine lv_if_eq (tgt := 58) hx hb d_Mo_multiplier_51 (by decide) (fun c4 => ?_) (fun c4 => ?_)
      · refine lv_iconst (v := 0) hx hb d_Mo_multiplier_58 (by decide) ?_
        refine x_Mo_goes F (tt3 230 rfl rfl) ⟨Nat.le_of_ble_eq_true rfl, Nat.le_of_ble_eq_true rfl⟩ hK hP hD hS hA hl.1 (Nat.le_of_ble_eq_true rfl) ⟨Nat.zero_le _, Nat.zero_le _⟩ d_Mo_multiplier_59 (fun H locs hP hD hS => ?_)
        have ew : u3 σ 0 0 0 (mo_g (mo_in x 0 (((σ 2 0 0) + (σ 3 0 0)) - 1)) 0) = u3 σ 0 0 0 2 := by rw [h1]; simp [mo_g]
        rw [ew] at hP hD
        clear ew
        refine lv_if_eq (tgt := 72) hx hb d_Mo_multiplier_62 (by decide) (fun c5 => ?_) (fun c5 => ?_)
        · exact ok_vretM F hr hlk hP hD hS d_Mo_multiplier_72
        · exact absurd (by rw [h1]; simp [mo_g]) c5
      · exact absurd h2 (by unfold mo_wv; first | (rw [if_pos c3]; exact c4) | (rw [if_neg c3]; exact c4))
    · refine lv_iload_n hx hb d_Mo_multiplier_31 rfl (lv_at hl 3 rfl) ?_
      refine lv_iconst (v := 0) hx hb d_Mo_multiplier_32 (by decide) ?_
      refine lv_ldc (v := 1000000) hx hb F.2.2.2.1 (F.2.2.2.2 (.constant RMo 128 (1000000)) (List.mem_cons_of_mem _ (tt4 71 rfl rfl))) d_Mo_multiplier_33 ?_
      refine x_Mo_in F (tt3 227 rfl rfl) ⟨Nat.le_of_ble_eq_true rfl, Nat.le_of_ble_eq_true rfl⟩ hK hP hl.1 (Nat.le_of_ble_eq_true rfl) ⟨Nat.zero_le _, Nat.zero_le _⟩ d_Mo_multiplier_35 ?_
      refine lv_if_eq (tgt := 58) hx hb d_Mo_multiplier_38 (by decide) (fun c6 => ?_) (fun c6 => ?_)
      · refine lv_iconst (v := 0) hx hb d_Mo_multiplier_58 (by decide) ?_
        refine x_Mo_goes F (tt3 230 rfl rfl) ⟨Nat.le_of_ble_eq_true rfl, Nat.le_of_ble_eq_true rfl⟩ hK hP hD hS hA hl.1 (Nat.le_of_ble_eq_true rfl) ⟨Nat.zero_le _, Nat.zero_le _⟩ d_Mo_multiplier_59 (fun H locs hP hD hS => ?_)
        have ew : u3 σ 0 0 0 (mo_g (mo_in x 0 (((σ 2 0 0) + (σ 3 0 0)) - 1)) 0) = u3 σ 0 0 0 2 := by rw [h1]; simp [mo_g]
        rw [ew] at hP hD
        clear ew
        refine lv_if_eq (tgt := 72) hx hb d_Mo_multiplier_62 (by decide) (fun c7 => ?_) (fun c7 => ?_)
        · exact ok_vretM F hr hlk hP hD hS d_Mo_multiplier_72
        · exact absurd (by rw [h1]; simp [mo_g]) c7
      · refine lv_goto (tgt := 54) hx hb d_Mo_multiplier_41 (by decide) ?_
        exact absurd h2 (by unfold mo_wv; first | (rw [if_pos c3]; exact c6) | (rw [if_neg c3]; exact c6))
theorem x_Mo_multiplier_2 {σ : oS} {r : Nat} {u : Nat} (h_r : σ 2 0 0 = nI r) (h_u : σ 3 0 0 = nI u) (hr4 : r ≤ 4) (hu4 : u ≤ 4) {x : Int32} {k : Nat} (hk : x = nI k) (hk9 : k < 8) (hk8 : k < r + u) {y : Int32} (h1 : mo_in x 0 (σ 2 0 0 + σ 3 0 0 - 1) = 1) (h2 : mo_wv σ r k y = 0) (F : CallFix p m c cc nL s args (cw :: tt) own) (hG : Cond.methodLink own index y_Mo_multiplier ∈ tt) (hR : 1 + 1 ≤ R.frames ∧ 8 + (4 + 11) + 22 ≤ R.locals) (hK : va_K D vwCl (mt cI cZ) s) (hP : va_P D vwCl (mw cI cZ ad σ) H) (hD : va_D A (mw cI cZ ad σ)) (hS : va_S A H0 H locs) (hA : ∀ q, H0.size ≤ q → A q) (hsz : ls.size = nL) (hW : (rest.map fun v => v.category).sum ≤ 8) (hcs : cells ≤ R.cells ∧ slots ≤ R.slots) (hdg : decode cc pc = .ok (.invokevirtual index, 3)) (kk : ∀ (H1 : Heap) (locs1 : List Loc), va_P D vwCl (mw cI cZ ad (u3 σ 0 0 0 2)) H1 → va_D A (mw cI cZ ad (u3 σ 0 0 0 2)) → va_S A H0 H1 locs1 → W p l e R s m args below meth c H1 locs1 cells slots Q (F0 m (pc + 3) ls (rest))) : W p l e R s m args below meth c H locs cells slots Q (F0 m pc ls (.int y :: .int x :: .ref (ad 0) :: rest)) :=
  ok_VM (As := [.int x, .int y]) F (c_Mo_multiplier_2 σ h_r h_u hr4 hu4 hk hk9 hk8 h1 h2) 2 (tt_V hG i_Mo_multiplier l_Mo_multiplier in9_Mo k_Mo_multiplier) rfl ⟨rfl, rfl⟩ (by decide +kernel) hR hK hP hD hS hA (0) 6 rfl rfl mw_0 rfl hsz rfl hW hcs hdg kk
end
end
