section
variable {l : Launch} {D : va_G} {cI cL : ClassId} {ad : Nat → Nat}
variable {p : Program} {e : Env} {R : Room} {s : State} {m : MethodId} {args : Array Value} {below : List Frame} {meth : Method} {c : Code} {H : Heap} {locs : List Loc} {cells slots : Nat} {Q : State → Prop} {cc : ByteArray} {pc nL index : Nat} {ls : Array Slot} {rest : List Value} {A : Nat → Prop} {H0 : Heap} {cw : Cond} {own : String}
set_option maxHeartbeats 4000000 in
set_option maxRecDepth 100000 in
theorem c_OB_column_1 (hfl : l.flags = pinnedFlags ++ [noTraceFlag]) (σ : oS) {x : Int32} {y : Int32} (h0 : ¬ (¬ x < -1000 ∧ x ≤ 1000 ∧ ¬ y < 0 ∧ y ≤ 20)) : ok_MT l y_OB_column (Cond.code y_OB_column b_OB_column 4 (some .int) :: tt) { frames := 6, cells := 1, slots := 6, locals := 82 } D vwCl (ot cI cL) (ow cI cL ad σ) [.ref (ad 0), .int x, .int y] "java/lang/IllegalArgumentException" := by
  refine ok_startT (cc := b_OB_column) (own := ROB) (maxL := 4) (ret := (some .int)) (by decide +kernel) rfl rfl (Nat.le_of_ble_eq_true rfl) ?_
  intro p e s m below meth c F hlk hout hP hK hZ ls hl
  have hl : lv_has ls 4 [(0, .ref (ad 0)), (1, .int x), (2, .int y)] := hl
  have hx := F.1
  have hb := F.2.1
  refine lv_iload_n hx hb d_OB_column_0 rfl (lv_at hl 1 rfl) ?_
  refine lv_sipush (v := -1000) hx hb d_OB_column_1 (by decide) ?_
  refine lv_icmp_lt (tgt := 14) hx hb d_OB_column_4 (by decide) (fun c1 => ?_) (fun c1 => ?_)
  · exact ok_throw (E := "java/lang/IllegalArgumentException") (tx := "worth is out of range") F hlk hout hZ hfl (List.mem_of_getElem? (i := 0) rfl) th_xw0 (tt2 6 rfl rfl) (tt2 49 rfl rfl) (List.mem_of_getElem? (i := 0) rfl) hl.1 ⟨Nat.le_of_ble_eq_true rfl, Nat.le_of_ble_eq_true rfl, Nat.le_refl _, Nat.le_refl _⟩ d_OB_column_14 d_OB_column_17 d_OB_column_18 d_OB_column_20 d_OB_column_23
  · refine lv_iload_n hx hb d_OB_column_7 rfl (lv_at hl 1 rfl) ?_
    refine lv_sipush (v := 1000) hx hb d_OB_column_8 (by decide) ?_
    refine lv_icmp_le (tgt := 24) hx hb d_OB_column_11 (by decide) (fun c2 => ?_) (fun c2 => ?_)
    · refine lv_iload_n hx hb d_OB_column_24 rfl (lv_at hl 2 rfl) ?_
      refine lv_if_lt (tgt := 34) hx hb d_OB_column_25 (by decide) (fun c3 => ?_) (fun c3 => ?_)
      · exact ok_throw (E := "java/lang/IllegalArgumentException") (tx := "top is out of range") F hlk hout hZ hfl (List.mem_of_getElem? (i := 0) rfl) th_xw0 (tt2 6 rfl rfl) (tt2 49 rfl rfl) (List.mem_of_getElem? (i := 1) rfl) hl.1 ⟨Nat.le_of_ble_eq_true rfl, Nat.le_of_ble_eq_true rfl, Nat.le_refl _, Nat.le_refl _⟩ d_OB_column_34 d_OB_column_37 d_OB_column_38 d_OB_column_40 d_OB_column_43
      · refine lv_iload_n hx hb d_OB_column_28 rfl (lv_at hl 2 rfl) ?_
        refine lv_bipush (v := 20) hx hb d_OB_column_29 (by decide) ?_
        refine lv_icmp_le (tgt := 44) hx hb d_OB_column_31 (by decide) (fun c4 => ?_) (fun c4 => ?_)
        · exact absurd ⟨c1, c2, c3, c4⟩ h0
        · exact ok_throw (E := "java/lang/IllegalArgumentException") (tx := "top is out of range") F hlk hout hZ hfl (List.mem_of_getElem? (i := 0) rfl) th_xw0 (tt2 6 rfl rfl) (tt2 49 rfl rfl) (List.mem_of_getElem? (i := 1) rfl) hl.1 ⟨Nat.le_of_ble_eq_true rfl, Nat.le_of_ble_eq_true rfl, Nat.le_refl _, Nat.le_refl _⟩ d_OB_column_34 d_OB_column_37 d_OB_column_38 d_OB_column_40 d_OB_column_43
    · exact ok_throw (E := "java/lang/IllegalArgumentException") (tx := "worth is out of range") F hlk hout hZ hfl (List.mem_of_getElem? (i := 0) rfl) th_xw0 (tt2 6 rfl rfl) (tt2 49 rfl rfl) (List.mem_of_getElem? (i := 0) rfl) hl.1 ⟨Nat.le_of_ble_eq_true rfl, Nat.le_of_ble_eq_true rfl, Nat.le_refl _, Nat.le_refl _⟩ d_OB_column_14 d_OB_column_17 d_OB_column_18 d_OB_column_20 d_OB_column_23
set_option maxHeartbeats 4000000 in
set_option maxRecDepth 100000 in
theorem c_OB_column_2 (hfl : l.flags = pinnedFlags ++ [noTraceFlag]) (σ : oS) {x : Int32} {y : Int32} (h1 : ¬ x < -1000) (h2 : x ≤ 1000) (h3 : ¬ y < 0) (h4 : y ≤ 20) (h0 : ¬ σ 2 0 0 < 5) : ok_MT l y_OB_column (Cond.code y_OB_column b_OB_column 4 (some .int) :: tt) { frames := 6, cells := 1, slots := 6, locals := 82 } D vwCl (ot cI cL) (ow cI cL ad σ) [.ref (ad 0), .int x, .int y] "java/lang/UnsupportedOperationException" := by
  refine ok_startT (cc := b_OB_column) (own := ROB) (maxL := 4) (ret := (some .int)) (by decide +kernel) rfl rfl (Nat.le_of_ble_eq_true rfl) ?_
  intro p e s m below meth c F hlk hout hP hK hZ ls hl
  have hl : lv_has ls 4 [(0, .ref (ad 0)), (1, .int x), (2, .int y)] := hl
  have hx := F.1
  have hb := F.2.1
  refine lv_iload_n hx hb d_OB_column_0 rfl (lv_at hl 1 rfl) ?_
  refine lv_sipush (v := -1000) hx hb d_OB_column_1 (by decide) ?_
  refine lv_icmp_lt (tgt := 14) hx hb d_OB_column_4 (by decide) (fun c1 => ?_) (fun c1 => ?_)
  · first | exact absurd c1 h1 | exact absurd h2 c1
  · refine lv_iload_n hx hb d_OB_column_7 rfl (lv_at hl 1 rfl) ?_
    refine lv_sipush (v := 1000) hx hb d_OB_column_8 (by decide) ?_
    refine lv_icmp_le (tgt := 24) hx hb d_OB_column_11 (by decide) (fun c2 => ?_) (fun c2 => ?_)
    · refine lv_iload_n hx hb d_OB_column_24 rfl (lv_at hl 2 rfl) ?_
      refine lv_if_lt (tgt := 34) hx hb d_OB_column_25 (by decide) (fun c3 => ?_) (fun c3 => ?_)
      · first | exact absurd c3 h3 | exact absurd h4 c3
      · refine lv_iload_n hx hb d_OB_column_28 rfl (lv_at hl 2 rfl) ?_
        refine lv_bipush (v := 20) hx hb d_OB_column_29 (by decide) ?_
        refine lv_icmp_le (tgt := 44) hx hb d_OB_column_31 (by decide) (fun c4 => ?_) (fun c4 => ?_)
        · refine lv_aload_n hx hb d_OB_column_44 rfl (lv_at hl 0 rfl) ?_
          refine gf_OB_columns F hK hP d_OB_column_45 ?_
          refine x_Co_count F (tt1 174 rfl rfl) ⟨Nat.le_of_ble_eq_true rfl, Nat.le_of_ble_eq_true rfl⟩ hK hP hl.1 (Nat.le_of_ble_eq_true rfl) ⟨Nat.zero_le _, Nat.zero_le _⟩ d_OB_column_48 ?_
          refine lv_iconst (v := 5) hx hb d_OB_column_51 (by decide) ?_
          refine lv_icmp_lt (tgt := 65) hx hb d_OB_column_52 (by decide) (fun c5 => ?_) (fun c5 => ?_)
          · exact absurd c5 h0
          · exact ok_throw (E := "java/lang/UnsupportedOperationException") (tx := "no room for a column") F hlk hout hZ hfl (List.mem_of_getElem? (i := 1) rfl) th_xw1 (tt2 76 rfl rfl) (tt2 86 rfl rfl) (List.mem_of_getElem? (i := 2) rfl) hl.1 ⟨Nat.le_of_ble_eq_true rfl, Nat.le_of_ble_eq_true rfl, Nat.le_refl _, Nat.le_refl _⟩ d_OB_column_55 d_OB_column_58 d_OB_column_59 d_OB_column_61 d_OB_column_64
        · first | exact absurd c4 h3 | exact absurd h4 c4
    · first | exact absurd c2 h1 | exact absurd h2 c2
set_option maxHeartbeats 4000000 in
set_option maxRecDepth 100000 in
theorem c_OB_row_1 (hfl : l.flags = pinnedFlags ++ [noTraceFlag]) (σ : oS) {x : Int32} {y : Int32} (h0 : ¬ ((x = 0 ∨ x = 1) ∧ ob_v y = 0)) : ok_MT l y_OB_row (Cond.code y_OB_row b_OB_row 4 (some .int) :: tt) { frames := 6, cells := 1, slots := 6, locals := 82 } D vwCl (ot cI cL) (ow cI cL ad σ) [.ref (ad 0), .int x, .int y] "java/lang/IllegalArgumentException" := by
  refine ok_startT (cc := b_OB_row) (own := ROB) (maxL := 4) (ret := (some .int)) (by decide +kernel) rfl rfl (Nat.le_of_ble_eq_true rfl) ?_
  intro p e s m below meth c F hlk hout hP hK hZ ls hl
  have hl : lv_has ls 4 [(0, .ref (ad 0)), (1, .int x), (2, .int y)] := hl
  have hx := F.1
  have hb := F.2.1
  refine lv_iload_n hx hb d_OB_row_0 rfl (lv_at hl 1 rfl) ?_
  refine lv_if_eq (tgt := 19) hx hb d_OB_row_1 (by decide) (fun c1 => ?_) (fun c1 => ?_)
  · refine lv_iload_n hx hb d_OB_row_19 rfl (lv_at hl 2 rfl) ?_
    refine x_OB_isNoRight F (tt2 120 rfl rfl) ⟨Nat.le_of_ble_eq_true rfl, Nat.le_of_ble_eq_true rfl⟩ hK hP hl.1 (Nat.le_of_ble_eq_true rfl) ⟨Nat.zero_le _, Nat.zero_le _⟩ d_OB_row_20 ?_
    refine lv_if_eq (tgt := 36) hx hb d_OB_row_23 (by decide) (fun c2 => ?_) (fun c2 => ?_)
    · exact absurd ⟨(by first | exact Or.inl c1 | exact Or.inr c1), c2⟩ h0
    · exact ok_throw (E := "java/lang/IllegalArgumentException") (tx := "right side is out of range") F hlk hout hZ hfl (List.mem_of_getElem? (i := 0) rfl) th_xw0 (tt2 6 rfl rfl) (tt2 49 rfl rfl) (List.mem_of_getElem? (i := 4) rfl) hl.1 ⟨Nat.le_of_ble_eq_true rfl, Nat.le_of_ble_eq_true rfl, Nat.le_refl _, Nat.le_refl _⟩ d_OB_row_26 d_OB_row_29 d_OB_row_30 d_OB_row_32 d_OB_row_35
  · refine lv_iload_n hx hb d_OB_row_4 rfl (lv_at hl 1 rfl) ?_
    refine lv_iconst (v := 1) hx hb d_OB_row_5 (by decide) ?_
    refine lv_icmp_eq (tgt := 19) hx hb d_OB_row_6 (by decide) (fun c3 => ?_) (fun c3 => ?_)
    · refine lv_iload_n hx hb d_OB_row_19 rfl (lv_at hl 2 rfl) ?_
      refine x_OB_isNoRight F (tt2 120 rfl rfl) ⟨Nat.le_of_ble_eq_true rfl, Nat.le_of_ble_eq_true rfl⟩ hK hP hl.1 (Nat.le_of_ble_eq_true rfl) ⟨Nat.zero_le _, Nat.zero_le _⟩ d_OB_row_20 ?_
      refine lv_if_eq (tgt := 36) hx hb d_OB_row_23 (by decide) (fun c4 => ?_) (fun c4 => ?_)
      · exact absurd ⟨(by first | exact Or.inl c3 | exact Or.inr c3), c4⟩ h0
      · exact ok_throw (E := "java/lang/IllegalArgumentException") (tx := "right side is out of range") F hlk hout hZ hfl (List.mem_of_getElem? (i := 0) rfl) th_xw0 (tt2 6 rfl rfl) (tt2 49 rfl rfl) (List.mem_of_getElem? (i := 4) rfl) hl.1 ⟨Nat.le_of_ble_eq_true rfl, Nat.le_of_ble_eq_true rfl, Nat.le_refl _, Nat.le_refl _⟩ d_OB_row_26 d_OB_row_29 d_OB_row_30 d_OB_row_32 d_OB_row_35
    · exact ok_throw (E := "java/lang/IllegalArgumentException") (tx := "no such kind") F hlk hout hZ hfl (List.mem_of_getElem? (i := 0) rfl) th_xw0 (tt2 6 rfl rfl) (tt2 49 rfl rfl) (List.mem_of_getElem? (i := 3) rfl) hl.1 ⟨Nat.le_of_ble_eq_true rfl, Nat.le_of_ble_eq_true rfl, Nat.le_refl _, Nat.le_refl _⟩ d_OB_row_9 d_OB_row_12 d_OB_row_13 d_OB_row_15 d_OB_row_18
set_option maxHeartbeats 4000000 in
set_option maxRecDepth 100000 in
theorem c_OB_row_2 (hfl : l.flags = pinnedFlags ++ [noTraceFlag]) (σ : oS) {x : Int32} {y : Int32} (h1 : x = 0 ∨ x = 1) (h2 : ob_v y = 0) (h0 : ¬ σ 9 0 0 < 4) : ok_MT l y_OB_row (Cond.code y_OB_row b_OB_row 4 (some .int) :: tt) { frames := 6, cells := 1, slots := 6, locals := 82 } D vwCl (ot cI cL) (ow cI cL ad σ) [.ref (ad 0), .int x, .int y] "java/lang/UnsupportedOperationException" := by
  refine ok_startT (cc := b_OB_row) (own := ROB) (maxL := 4) (ret := (some .int)) (by decide +kernel) rfl rfl (Nat.le_of_ble_eq_true rfl) ?_
  intro p e s m below meth c F hlk hout hP hK hZ ls hl
  have hl : lv_has ls 4 [(0, .ref (ad 0)), (1, .int x), (2, .int y)] := hl
  have hx := F.1
  have hb := F.2.1
  refine lv_iload_n hx hb d_OB_row_0 rfl (lv_at hl 1 rfl) ?_
  refine lv_if_eq (tgt := 19) hx hb d_OB_row_1 (by decide) (fun c1 => ?_) (fun c1 => ?_)
  · refine lv_iload_n hx hb d_OB_row_19 rfl (lv_at hl 2 rfl) ?_
    refine x_OB_isNoRight F (tt2 120 rfl rfl) ⟨Nat.le_of_ble_eq_true rfl, Nat.le_of_ble_eq_true rfl⟩ hK hP hl.1 (Nat.le_of_ble_eq_true rfl) ⟨Nat.zero_le _, Nat.zero_le _⟩ d_OB_row_20 ?_
    refine lv_if_eq (tgt := 36) hx hb d_OB_row_23 (by decide) (fun c2 => ?_) (fun c2 => ?_)
    · refine lv_aload_n hx hb d_OB_row_36 rfl (lv_at hl 0 rfl) ?_
      refine gf_OB_lines F hK hP d_OB_row_37 ?_
      refine x_Ls_rowCount F (tt2 124 rfl rfl) ⟨Nat.le_of_ble_eq_true rfl, Nat.le_of_ble_eq_true rfl⟩ hK hP hl.1 (Nat.le_of_ble_eq_true rfl) ⟨Nat.zero_le _, Nat.zero_le _⟩ d_OB_row_40 ?_
      refine lv_iconst (v := 4) hx hb d_OB_row_43 (by decide) ?_
      refine lv_icmp_lt (tgt := 57) hx hb d_OB_row_44 (by decide) (fun c3 => ?_) (fun c3 => ?_)
      · exact absurd c3 h0
      · exact ok_throw (E := "java/lang/UnsupportedOperationException") (tx := "no room for a row") F hlk hout hZ hfl (List.mem_of_getElem? (i := 1) rfl) th_xw1 (tt2 76 rfl rfl) (tt2 86 rfl rfl) (List.mem_of_getElem? (i := 5) rfl) hl.1 ⟨Nat.le_of_ble_eq_true rfl, Nat.le_of_ble_eq_true rfl, Nat.le_refl _, Nat.le_refl _⟩ d_OB_row_47 d_OB_row_50 d_OB_row_51 d_OB_row_53 d_OB_row_56
    · exact absurd h2 c2
  · refine lv_iload_n hx hb d_OB_row_4 rfl (lv_at hl 1 rfl) ?_
    refine lv_iconst (v := 1) hx hb d_OB_row_5 (by decide) ?_
    refine lv_icmp_eq (tgt := 19) hx hb d_OB_row_6 (by decide) (fun c4 => ?_) (fun c4 => ?_)
    · refine lv_iload_n hx hb d_OB_row_19 rfl (lv_at hl 2 rfl) ?_
      refine x_OB_isNoRight F (tt2 120 rfl rfl) ⟨Nat.le_of_ble_eq_true rfl, Nat.le_of_ble_eq_true rfl⟩ hK hP hl.1 (Nat.le_of_ble_eq_true rfl) ⟨Nat.zero_le _, Nat.zero_le _⟩ d_OB_row_20 ?_
      refine lv_if_eq (tgt := 36) hx hb d_OB_row_23 (by decide) (fun c5 => ?_) (fun c5 => ?_)
      · refine lv_aload_n hx hb d_OB_row_36 rfl (lv_at hl 0 rfl) ?_
        refine gf_OB_lines F hK hP d_OB_row_37 ?_
        refine x_Ls_rowCount F (tt2 124 rfl rfl) ⟨Nat.le_of_ble_eq_true rfl, Nat.le_of_ble_eq_true rfl⟩ hK hP hl.1 (Nat.le_of_ble_eq_true rfl) ⟨Nat.zero_le _, Nat.zero_le _⟩ d_OB_row_40 ?_
        refine lv_iconst (v := 4) hx hb d_OB_row_43 (by decide) ?_
        refine lv_icmp_lt (tgt := 57) hx hb d_OB_row_44 (by decide) (fun c6 => ?_) (fun c6 => ?_)
        · exact absurd c6 h0
        · exact ok_throw (E := "java/lang/UnsupportedOperationException") (tx := "no room for a row") F hlk hout hZ hfl (List.mem_of_getElem? (i := 1) rfl) th_xw1 (tt2 76 rfl rfl) (tt2 86 rfl rfl) (List.mem_of_getElem? (i := 5) rfl) hl.1 ⟨Nat.le_of_ble_eq_true rfl, Nat.le_of_ble_eq_true rfl, Nat.le_refl _, Nat.le_refl _⟩ d_OB_row_47 d_OB_row_50 d_OB_row_51 d_OB_row_53 d_OB_row_56
      · exact absurd h2 c5
    · exact absurd h1 (fun q => q.elim c1 c4)
set_option maxHeartbeats 4000000 in
set_option maxRecDepth 100000 in
theorem c_OB_factor_1 (hfl : l.flags = pinnedFlags ++ [noTraceFlag]) (σ : oS) {x : Int32} {y : Int32} {v : Int32} (h0 : ¬ (ob_r σ x = 0 ∧ ob_c σ y = 0)) : ok_MT l y_OB_factor (Cond.code y_OB_factor b_OB_factor 4 none :: tt) { frames := 6, cells := 1, slots := 6, locals := 82 } D vwCl (ot cI cL) (ow cI cL ad σ) [.ref (ad 0), .int x, .int y, .int v] "java/lang/IndexOutOfBoundsException" := by
  refine ok_startT (cc := b_OB_factor) (own := ROB) (maxL := 4) (ret := none) (by decide +kernel) rfl rfl (Nat.le_of_ble_eq_true rfl) ?_
  intro p e s m below meth c F hlk hout hP hK hZ ls hl
  have hl : lv_has ls 4 [(0, .ref (ad 0)), (1, .int x), (2, .int y), (3, .int v)] := hl
  have hx := F.1
  have hb := F.2.1
  refine lv_aload_n hx hb d_OB_factor_0 rfl (lv_at hl 0 rfl) ?_
  refine lv_iload_n hx hb d_OB_factor_1 rfl (lv_at hl 1 rfl) ?_
  refine x_OB_isNoRow F (tt2 157 rfl rfl) ⟨Nat.le_of_ble_eq_true rfl, Nat.le_of_ble_eq_true rfl⟩ hK hP hl.1 (Nat.le_of_ble_eq_true rfl) ⟨Nat.zero_le _, Nat.zero_le _⟩ d_OB_factor_2 ?_
  refine lv_if_eq (tgt := 18) hx hb d_OB_factor_5 (by decide) (fun c1 => ?_) (fun c1 => ?_)
  · refine lv_aload_n hx hb d_OB_factor_18 rfl (lv_at hl 0 rfl) ?_
    refine lv_iload_n hx hb d_OB_factor_19 rfl (lv_at hl 2 rfl) ?_
    refine x_OB_isNoColumn F (tt2 177 rfl rfl) ⟨Nat.le_of_ble_eq_true rfl, Nat.le_of_ble_eq_true rfl⟩ hK hP hl.1 (Nat.le_of_ble_eq_true rfl) ⟨Nat.zero_le _, Nat.zero_le _⟩ d_OB_factor_20 ?_
    refine lv_if_eq (tgt := 36) hx hb d_OB_factor_23 (by decide) (fun c2 => ?_) (fun c2 => ?_)
    · exact absurd ⟨c1, c2⟩ h0
    · exact ok_throw (E := "java/lang/IndexOutOfBoundsException") (tx := "no such column") F hlk hout hZ hfl (List.mem_of_getElem? (i := 2) rfl) th_xw2 (tt2 161 rfl rfl) (tt2 171 rfl rfl) (List.mem_of_getElem? (i := 7) rfl) hl.1 ⟨Nat.le_of_ble_eq_true rfl, Nat.le_of_ble_eq_true rfl, Nat.le_refl _, Nat.le_refl _⟩ d_OB_factor_26 d_OB_factor_29 d_OB_factor_30 d_OB_factor_32 d_OB_factor_35
  · exact ok_throw (E := "java/lang/IndexOutOfBoundsException") (tx := "no such row") F hlk hout hZ hfl (List.mem_of_getElem? (i := 2) rfl) th_xw2 (tt2 161 rfl rfl) (tt2 171 rfl rfl) (List.mem_of_getElem? (i := 6) rfl) hl.1 ⟨Nat.le_of_ble_eq_true rfl, Nat.le_of_ble_eq_true rfl, Nat.le_refl _, Nat.le_refl _⟩ d_OB_factor_8 d_OB_factor_11 d_OB_factor_12 d_OB_factor_14 d_OB_factor_17
set_option maxHeartbeats 4000000 in
set_option maxRecDepth 100000 in
theorem c_OB_factor_2 (hfl : l.flags = pinnedFlags ++ [noTraceFlag]) (σ : oS) {x : Int32} {y : Int32} {v : Int32} (h1 : ob_r σ x = 0) (h2 : ob_c σ y = 0) (h0 : ¬ (¬ v < -10 ∧ v ≤ 10)) : ok_MT l y_OB_factor (Cond.code y_OB_factor b_OB_factor 4 none :: tt) { frames := 6, cells := 1, slots := 6, locals := 82 } D vwCl (ot cI cL) (ow cI cL ad σ) [.ref (ad 0), .int x, .int y, .int v] "java/lang/IllegalArgumentException" := by
  refine ok_startT (cc := b_OB_factor) (own := ROB) (maxL := 4) (ret := none) (by decide +kernel) rfl rfl (Nat.le_of_ble_eq_true rfl) ?_
  intro p e s m below meth c F hlk hout hP hK hZ ls hl
  have hl : lv_has ls 4 [(0, .ref (ad 0)), (1, .int x), (2, .int y), (3, .int v)] := hl
  have hx := F.1
  have hb := F.2.1
  refine lv_aload_n hx hb d_OB_factor_0 rfl (lv_at hl 0 rfl) ?_
  refine lv_iload_n hx hb d_OB_factor_1 rfl (lv_at hl 1 rfl) ?_
  refine x_OB_isNoRow F (tt2 157 rfl rfl) ⟨Nat.le_of_ble_eq_true rfl, Nat.le_of_ble_eq_true rfl⟩ hK hP hl.1 (Nat.le_of_ble_eq_true rfl) ⟨Nat.zero_le _, Nat.zero_le _⟩ d_OB_factor_2 ?_
  refine lv_if_eq (tgt := 18) hx hb d_OB_factor_5 (by decide) (fun c1 => ?_) (fun c1 => ?_)
  · refine lv_aload_n hx hb d_OB_factor_18 rfl (lv_at hl 0 rfl) ?_
    refine lv_iload_n hx hb d_OB_factor_19 rfl (lv_at hl 2 rfl) ?_
    refine x_OB_isNoColumn F (tt2 177 rfl rfl) ⟨Nat.le_of_ble_eq_true rfl, Nat.le_of_ble_eq_true rfl⟩ hK hP hl.1 (Nat.le_of_ble_eq_true rfl) ⟨Nat.zero_le _, Nat.zero_le _⟩ d_OB_factor_20 ?_
    refine lv_if_eq (tgt := 36) hx hb d_OB_factor_23 (by decide) (fun c2 => ?_) (fun c2 => ?_)
    · refine lv_iload_n hx hb d_OB_factor_36 rfl (lv_at hl 3 rfl) ?_
      refine lv_bipush (v := -10) hx hb d_OB_factor_37 (by decide) ?_
      refine lv_icmp_lt (tgt := 48) hx hb d_OB_factor_39 (by decide) (fun c3 => ?_) (fun c3 => ?_)
      · exact ok_throw (E := "java/lang/IllegalArgumentException") (tx := "factor is out of range") F hlk hout hZ hfl (List.mem_of_getElem? (i := 0) rfl) th_xw0 (tt2 6 rfl rfl) (tt2 49 rfl rfl) (List.mem_of_getElem? (i := 8) rfl) hl.1 ⟨Nat.le_of_ble_eq_true rfl, Nat.le_of_ble_eq_true rfl, Nat.le_refl _, Nat.le_refl _⟩ d_OB_factor_48 d_OB_factor_51 d_OB_factor_52 d_OB_factor_54 d_OB_factor_57
      · refine lv_iload_n hx hb d_OB_factor_42 rfl (lv_at hl 3 rfl) ?_
        refine lv_bipush (v := 10) hx hb d_OB_factor_43 (by decide) ?_
        refine lv_icmp_le (tgt := 58) hx hb d_OB_factor_45 (by decide) (fun c4 => ?_) (fun c4 => ?_)
        · exact absurd ⟨c3, c4⟩ h0
        · exact ok_throw (E := "java/lang/IllegalArgumentException") (tx := "factor is out of range") F hlk hout hZ hfl (List.mem_of_getElem? (i := 0) rfl) th_xw0 (tt2 6 rfl rfl) (tt2 49 rfl rfl) (List.mem_of_getElem? (i := 8) rfl) hl.1 ⟨Nat.le_of_ble_eq_true rfl, Nat.le_of_ble_eq_true rfl, Nat.le_refl _, Nat.le_refl _⟩ d_OB_factor_48 d_OB_factor_51 d_OB_factor_52 d_OB_factor_54 d_OB_factor_57
    · exact absurd h2 c2
  · exact absurd h1 c1
set_option maxHeartbeats 4000000 in
set_option maxRecDepth 100000 in
theorem c_OB_right_1 (hfl : l.flags = pinnedFlags ++ [noTraceFlag]) (σ : oS) {x : Int32} {y : Int32} (h0 : ¬ ob_r σ x = 0) : ok_MT l y_OB_right (Cond.code y_OB_right b_OB_right 3 none :: tt) { frames := 6, cells := 1, slots := 6, locals := 82 } D vwCl (ot cI cL) (ow cI cL ad σ) [.ref (ad 0), .int x, .int y] "java/lang/IndexOutOfBoundsException" := by
  refine ok_startT (cc := b_OB_right) (own := ROB) (maxL := 3) (ret := none) (by decide +kernel) rfl rfl (Nat.le_of_ble_eq_true rfl) ?_
  intro p e s m below meth c F hlk hout hP hK hZ ls hl
  have hl : lv_has ls 3 [(0, .ref (ad 0)), (1, .int x), (2, .int y)] := hl
  have hx := F.1
  have hb := F.2.1
  refine lv_aload_n hx hb d_OB_right_0 rfl (lv_at hl 0 rfl) ?_
  refine lv_iload_n hx hb d_OB_right_1 rfl (lv_at hl 1 rfl) ?_
  refine x_OB_isNoRow F (tt2 157 rfl rfl) ⟨Nat.le_of_ble_eq_true rfl, Nat.le_of_ble_eq_true rfl⟩ hK hP hl.1 (Nat.le_of_ble_eq_true rfl) ⟨Nat.zero_le _, Nat.zero_le _⟩ d_OB_right_2 ?_
  refine lv_if_eq (tgt := 18) hx hb d_OB_right_5 (by decide) (fun c1 => ?_) (fun c1 => ?_)
  · exact absurd c1 h0
  · exact ok_throw (E := "java/lang/IndexOutOfBoundsException") (tx := "no such row") F hlk hout hZ hfl (List.mem_of_getElem? (i := 2) rfl) th_xw2 (tt2 161 rfl rfl) (tt2 171 rfl rfl) (List.mem_of_getElem? (i := 6) rfl) hl.1 ⟨Nat.le_of_ble_eq_true rfl, Nat.le_of_ble_eq_true rfl, Nat.le_refl _, Nat.le_refl _⟩ d_OB_right_8 d_OB_right_11 d_OB_right_12 d_OB_right_14 d_OB_right_17
set_option maxHeartbeats 4000000 in
set_option maxRecDepth 100000 in
theorem c_OB_right_2 (hfl : l.flags = pinnedFlags ++ [noTraceFlag]) (σ : oS) {x : Int32} {y : Int32} (h1 : ob_r σ x = 0) (h0 : ¬ ob_v y = 0) : ok_MT l y_OB_right (Cond.code y_OB_right b_OB_right 3 none :: tt) { frames := 6, cells := 1, slots := 6, locals := 82 } D vwCl (ot cI cL) (ow cI cL ad σ) [.ref (ad 0), .int x, .int y] "java/lang/IllegalArgumentException" := by
  refine ok_startT (cc := b_OB_right) (own := ROB) (maxL := 3) (ret := none) (by decide +kernel) rfl rfl (Nat.le_of_ble_eq_true rfl) ?_
  intro p e s m below meth c F hlk hout hP hK hZ ls hl
  have hl : lv_has ls 3 [(0, .ref (ad 0)), (1, .int x), (2, .int y)] := hl
  have hx := F.1
  have hb := F.2.1
  refine lv_aload_n hx hb d_OB_right_0 rfl (lv_at hl 0 rfl) ?_
  refine lv_iload_n hx hb d_OB_right_1 rfl (lv_at hl 1 rfl) ?_
  refine x_OB_isNoRow F (tt2 157 rfl rfl) ⟨Nat.le_of_ble_eq_true rfl, Nat.le_of_ble_eq_true rfl⟩ hK hP hl.1 (Nat.le_of_ble_eq_true rfl) ⟨Nat.zero_le _, Nat.zero_le _⟩ d_OB_right_2 ?_
  refine lv_if_eq (tgt := 18) hx hb d_OB_right_5 (by decide) (fun c1 => ?_) (fun c1 => ?_)
  · refine lv_iload_n hx hb d_OB_right_18 rfl (lv_at hl 2 rfl) ?_
    refine x_OB_isNoRight F (tt2 120 rfl rfl) ⟨Nat.le_of_ble_eq_true rfl, Nat.le_of_ble_eq_true rfl⟩ hK hP hl.1 (Nat.le_of_ble_eq_true rfl) ⟨Nat.zero_le _, Nat.zero_le _⟩ d_OB_right_19 ?_
    refine lv_if_eq (tgt := 35) hx hb d_OB_right_22 (by decide) (fun c2 => ?_) (fun c2 => ?_)
    · exact absurd c2 h0
    · exact ok_throw (E := "java/lang/IllegalArgumentException") (tx := "right side is out of range") F hlk hout hZ hfl (List.mem_of_getElem? (i := 0) rfl) th_xw0 (tt2 6 rfl rfl) (tt2 49 rfl rfl) (List.mem_of_getElem? (i := 4) rfl) hl.1 ⟨Nat.le_of_ble_eq_true rfl, Nat.le_of_ble_eq_true rfl, Nat.le_refl _, Nat.le_refl _⟩ d_OB_right_25 d_OB_right_28 d_OB_right_29 d_OB_right_31 d_OB_right_34
  · exact absurd h1 c1
set_option maxHeartbeats 4000000 in
set_option maxRecDepth 100000 in
theorem c_OB_cut_1 (hfl : l.flags = pinnedFlags ++ [noTraceFlag]) (σ : oS) {x : Int32} {y : Int32} (h0 : ¬ ob_p σ x y = 0) : ok_MT l y_OB_cut (Cond.code y_OB_cut b_OB_cut 4 (some .int) :: tt) { frames := 6, cells := 1, slots := 6, locals := 82 } D vwCl (ot cI cL) (ow cI cL ad σ) [.ref (ad 0), .int x, .int y] "java/lang/IndexOutOfBoundsException" := by
  refine ok_startT (cc := b_OB_cut) (own := ROB) (maxL := 4) (ret := (some .int)) (by decide +kernel) rfl rfl (Nat.le_of_ble_eq_true rfl) ?_
  intro p e s m below meth c F hlk hout hP hK hZ ls hl
  have hl : lv_has ls 4 [(0, .ref (ad 0)), (1, .int x), (2, .int y)] := hl
  have hx := F.1
  have hb := F.2.1
  refine lv_aload_n hx hb d_OB_cut_0 rfl (lv_at hl 0 rfl) ?_
  refine lv_iload_n hx hb d_OB_cut_1 rfl (lv_at hl 1 rfl) ?_
  refine lv_iload_n hx hb d_OB_cut_2 rfl (lv_at hl 2 rfl) ?_
  refine x_OB_isNoPair F (tt2 202 rfl rfl) ⟨Nat.le_of_ble_eq_true rfl, Nat.le_of_ble_eq_true rfl⟩ hK hP hl.1 (Nat.le_of_ble_eq_true rfl) ⟨Nat.zero_le _, Nat.zero_le _⟩ d_OB_cut_3 ?_
  refine lv_if_eq (tgt := 19) hx hb d_OB_cut_6 (by decide) (fun c1 => ?_) (fun c1 => ?_)
  · exact absurd c1 h0
  · exact ok_throw (E := "java/lang/IndexOutOfBoundsException") (tx := "no such pair of columns") F hlk hout hZ hfl (List.mem_of_getElem? (i := 2) rfl) th_xw2 (tt2 161 rfl rfl) (tt2 171 rfl rfl) (List.mem_of_getElem? (i := 9) rfl) hl.1 ⟨Nat.le_of_ble_eq_true rfl, Nat.le_of_ble_eq_true rfl, Nat.le_refl _, Nat.le_refl _⟩ d_OB_cut_9 d_OB_cut_12 d_OB_cut_13 d_OB_cut_15 d_OB_cut_18
set_option maxHeartbeats 4000000 in
set_option maxRecDepth 100000 in
theorem c_OB_cut_2 (hfl : l.flags = pinnedFlags ++ [noTraceFlag]) (σ : oS) {r : Nat} {u : Nat} (h_r : σ 9 0 0 = nI r) (h_u : σ 10 0 0 = nI u) (hr4 : r ≤ 4) (hu4 : u ≤ 4) {x : Int32} {j : Nat} (hj : x = nI j) (hj9 : j < 5) {y : Int32} {t : Nat} (ht : y = nI t) (ht9 : t < 5) (h1 : ob_p σ x y = 0) (h0 : ¬ (σ 10 0 0 < 4 ∧ ls_hc σ j t u = false)) : ok_MT l y_OB_cut (Cond.code y_OB_cut b_OB_cut 4 (some .int) :: tt) { frames := 6, cells := 1, slots := 6, locals := 82 } D vwCl (ot cI cL) (ow cI cL ad σ) [.ref (ad 0), .int x, .int y] "java/lang/UnsupportedOperationException" := by
  refine ok_startT (cc := b_OB_cut) (own := ROB) (maxL := 4) (ret := (some .int)) (by decide +kernel) rfl rfl (Nat.le_of_ble_eq_true rfl) ?_
  intro p e s m below meth c F hlk hout hP hK hZ ls hl
  have hl : lv_has ls 4 [(0, .ref (ad 0)), (1, .int x), (2, .int y)] := hl
  have hx := F.1
  have hb := F.2.1
  refine lv_aload_n hx hb d_OB_cut_0 rfl (lv_at hl 0 rfl) ?_
  refine lv_iload_n hx hb d_OB_cut_1 rfl (lv_at hl 1 rfl) ?_
  refine lv_iload_n hx hb d_OB_cut_2 rfl (lv_at hl 2 rfl) ?_
  refine x_OB_isNoPair F (tt2 202 rfl rfl) ⟨Nat.le_of_ble_eq_true rfl, Nat.le_of_ble_eq_true rfl⟩ hK hP hl.1 (Nat.le_of_ble_eq_true rfl) ⟨Nat.zero_le _, Nat.zero_le _⟩ d_OB_cut_3 ?_
  refine lv_if_eq (tgt := 19) hx hb d_OB_cut_6 (by decide) (fun c1 => ?_) (fun c1 => ?_)
  · refine lv_aload_n hx hb d_OB_cut_19 rfl (lv_at hl 0 rfl) ?_
    refine gf_OB_lines F hK hP d_OB_cut_20 ?_
    refine x_Ls_cutCount F (tt2 207 rfl rfl) ⟨Nat.le_of_ble_eq_true rfl, Nat.le_of_ble_eq_true rfl⟩ hK hP hl.1 (Nat.le_of_ble_eq_true rfl) ⟨Nat.zero_le _, Nat.zero_le _⟩ d_OB_cut_23 ?_
    refine lv_iconst (v := 4) hx hb d_OB_cut_26 (by decide) ?_
    refine lv_icmp_lt (tgt := 40) hx hb d_OB_cut_27 (by decide) (fun c2 => ?_) (fun c2 => ?_)
    · refine lv_aload_n hx hb d_OB_cut_40 rfl (lv_at hl 0 rfl) ?_
      refine gf_OB_lines F hK hP d_OB_cut_41 ?_
      refine lv_iload_n hx hb d_OB_cut_44 rfl (lv_at hl 1 rfl) ?_
      refine lv_iload_n hx hb d_OB_cut_45 rfl (lv_at hl 2 rfl) ?_
      refine x_Ls_hasCut (r := r) (u := u) h_r h_u hr4 hu4 (j := j) hj (by omega) (t := t) ht (by omega) F (tt2 212 rfl rfl) ⟨Nat.le_of_ble_eq_true rfl, Nat.le_of_ble_eq_true rfl⟩ hK hP hl.1 (Nat.le_of_ble_eq_true rfl) ⟨Nat.zero_le _, Nat.zero_le _⟩ d_OB_cut_46 ?_
      refine lv_if_eq (tgt := 62) hx hb d_OB_cut_49 (by decide) (fun c3 => ?_) (fun c3 => ?_)
      · cases hb9 : ls_hc σ j t u with
          | false => exact absurd ⟨c2, hb9⟩ h0
          | true => rw [hb9] at c3; exact absurd c3 (by decide)
      · exact ok_throw (E := "java/lang/UnsupportedOperationException") (tx := "the pair has a cut") F hlk hout hZ hfl (List.mem_of_getElem? (i := 1) rfl) th_xw1 (tt2 76 rfl rfl) (tt2 86 rfl rfl) (List.mem_of_getElem? (i := 11) rfl) hl.1 ⟨Nat.le_of_ble_eq_true rfl, Nat.le_of_ble_eq_true rfl, Nat.le_refl _, Nat.le_refl _⟩ d_OB_cut_52 d_OB_cut_55 d_OB_cut_56 d_OB_cut_58 d_OB_cut_61
    · exact ok_throw (E := "java/lang/UnsupportedOperationException") (tx := "no room for a cut") F hlk hout hZ hfl (List.mem_of_getElem? (i := 1) rfl) th_xw1 (tt2 76 rfl rfl) (tt2 86 rfl rfl) (List.mem_of_getElem? (i := 10) rfl) hl.1 ⟨Nat.le_of_ble_eq_true rfl, Nat.le_of_ble_eq_true rfl, Nat.le_refl _, Nat.le_refl _⟩ d_OB_cut_30 d_OB_cut_33 d_OB_cut_34 d_OB_cut_36 d_OB_cut_39
  · exact absurd h1 c1
set_option maxHeartbeats 4000000 in
set_option maxRecDepth 100000 in
theorem c_OB_run_1 (hfl : l.flags = pinnedFlags ++ [noTraceFlag]) (σ : oS) {x : Int32} (h0 : ¬ (¬ x < 0 ∧ x ≤ 100000)) : ok_MT l y_OB_run (Cond.code y_OB_run b_OB_run 2 (some .int) :: tt) { frames := 6, cells := 1, slots := 6, locals := 82 } D vwCl (ot cI cL) (ow cI cL ad σ) [.ref (ad 0), .int x] "java/lang/IllegalArgumentException" := by
  refine ok_startT (cc := b_OB_run) (own := ROB) (maxL := 2) (ret := (some .int)) (by decide +kernel) rfl rfl (Nat.le_of_ble_eq_true rfl) ?_
  intro p e s m below meth c F hlk hout hP hK hZ ls hl
  have hl : lv_has ls 2 [(0, .ref (ad 0)), (1, .int x)] := hl
  have hx := F.1
  have hb := F.2.1
  refine lv_iload_n hx hb d_OB_run_0 rfl (lv_at hl 1 rfl) ?_
  refine lv_if_lt (tgt := 10) hx hb d_OB_run_1 (by decide) (fun c1 => ?_) (fun c1 => ?_)
  · exact ok_throw (E := "java/lang/IllegalArgumentException") (tx := "steps are out of range") F hlk hout hZ hfl (List.mem_of_getElem? (i := 0) rfl) th_xw0 (tt2 6 rfl rfl) (tt2 49 rfl rfl) (List.mem_of_getElem? (i := 12) rfl) hl.1 ⟨Nat.le_of_ble_eq_true rfl, Nat.le_of_ble_eq_true rfl, Nat.le_refl _, Nat.le_refl _⟩ d_OB_run_10 d_OB_run_13 d_OB_run_14 d_OB_run_16 d_OB_run_19
  · refine lv_iload_n hx hb d_OB_run_4 rfl (lv_at hl 1 rfl) ?_
    refine lv_ldc (v := 100000) hx hb F.2.2.2.1 (F.2.2.2.2 (.constant ROB 138 (100000)) (List.mem_cons_of_mem _ (tt2 230 rfl rfl))) d_OB_run_5 ?_
    refine lv_icmp_le (tgt := 20) hx hb d_OB_run_7 (by decide) (fun c2 => ?_) (fun c2 => ?_)
    · exact absurd ⟨c1, c2⟩ h0
    · exact ok_throw (E := "java/lang/IllegalArgumentException") (tx := "steps are out of range") F hlk hout hZ hfl (List.mem_of_getElem? (i := 0) rfl) th_xw0 (tt2 6 rfl rfl) (tt2 49 rfl rfl) (List.mem_of_getElem? (i := 12) rfl) hl.1 ⟨Nat.le_of_ble_eq_true rfl, Nat.le_of_ble_eq_true rfl, Nat.le_refl _, Nat.le_refl _⟩ d_OB_run_10 d_OB_run_13 d_OB_run_14 d_OB_run_16 d_OB_run_19
set_option maxHeartbeats 4000000 in
set_option maxRecDepth 100000 in
theorem c_OB_told_1 (hfl : l.flags = pinnedFlags ++ [noTraceFlag]) (σ : oS) {x : Int32} (h0 : ¬ (x = 0 ∨ x = 1)) : ok_MT l y_OB_told (Cond.code y_OB_told b_OB_told 2 (some .int) :: tt) { frames := 6, cells := 1, slots := 6, locals := 82 } D vwCl (ot cI cL) (ow cI cL ad σ) [.ref (ad 0), .int x] "java/lang/IndexOutOfBoundsException" := by
  refine ok_startT (cc := b_OB_told) (own := ROB) (maxL := 2) (ret := (some .int)) (by decide +kernel) rfl rfl (Nat.le_of_ble_eq_true rfl) ?_
  intro p e s m below meth c F hlk hout hP hK hZ ls hl
  have hl : lv_has ls 2 [(0, .ref (ad 0)), (1, .int x)] := hl
  have hx := F.1
  have hb := F.2.1
  refine lv_iload_n hx hb d_OB_told_0 rfl (lv_at hl 1 rfl) ?_
  refine lv_if_eq (tgt := 19) hx hb d_OB_told_1 (by decide) (fun c1 => ?_) (fun c1 => ?_)
  · exact absurd (by first | exact Or.inl c1 | exact Or.inr c1) h0
  · refine lv_iload_n hx hb d_OB_told_4 rfl (lv_at hl 1 rfl) ?_
    refine lv_iconst (v := 1) hx hb d_OB_told_5 (by decide) ?_
    refine lv_icmp_eq (tgt := 19) hx hb d_OB_told_6 (by decide) (fun c2 => ?_) (fun c2 => ?_)
    · exact absurd (by first | exact Or.inl c2 | exact Or.inr c2) h0
    · exact ok_throw (E := "java/lang/IndexOutOfBoundsException") (tx := "no such what") F hlk hout hZ hfl (List.mem_of_getElem? (i := 2) rfl) th_xw2 (tt2 161 rfl rfl) (tt2 171 rfl rfl) (List.mem_of_getElem? (i := 13) rfl) hl.1 ⟨Nat.le_of_ble_eq_true rfl, Nat.le_of_ble_eq_true rfl, Nat.le_refl _, Nat.le_refl _⟩ d_OB_told_9 d_OB_told_12 d_OB_told_13 d_OB_told_15 d_OB_told_18
set_option maxHeartbeats 4000000 in
set_option maxRecDepth 100000 in
theorem c_OB_told_2 (hfl : l.flags = pinnedFlags ++ [noTraceFlag]) (σ : oS) (hfo : σ 17 0 0 = 0 ∨ σ 17 0 0 = 1) {x : Int32} (h1 : x = 0 ∨ x = 1) (h2 : ¬ x = 1) (h0 : σ 17 0 0 = 0) : ok_MT l y_OB_told (Cond.code y_OB_told b_OB_told 2 (some .int) :: tt) { frames := 6, cells := 1, slots := 6, locals := 82 } D vwCl (ot cI cL) (ow cI cL ad σ) [.ref (ad 0), .int x] "java/lang/IllegalStateException" := by
  refine ok_startT (cc := b_OB_told) (own := ROB) (maxL := 2) (ret := (some .int)) (by decide +kernel) rfl rfl (Nat.le_of_ble_eq_true rfl) ?_
  intro p e s m below meth c F hlk hout hP hK hZ ls hl
  have hl : lv_has ls 2 [(0, .ref (ad 0)), (1, .int x)] := hl
  have hx := F.1
  have hb := F.2.1
  refine lv_iload_n hx hb d_OB_told_0 rfl (lv_at hl 1 rfl) ?_
  refine lv_if_eq (tgt := 19) hx hb d_OB_told_1 (by decide) (fun c1 => ?_) (fun c1 => ?_)
  · refine lv_iload_n hx hb d_OB_told_19 rfl (lv_at hl 1 rfl) ?_
    refine lv_iconst (v := 1) hx hb d_OB_told_20 (by decide) ?_
    refine lv_icmp_ne (tgt := 32) hx hb d_OB_told_21 (by decide) (fun c2 => ?_) (fun c2 => ?_)
    · refine lv_aload_n hx hb d_OB_told_32 rfl (lv_at hl 0 rfl) ?_
      refine gf_OB_search F hK hP d_OB_told_33 ?_
      refine x_Se_hasFound hfo F (tt3 45 rfl rfl) ⟨Nat.le_of_ble_eq_true rfl, Nat.le_of_ble_eq_true rfl⟩ hK hP hl.1 (Nat.le_of_ble_eq_true rfl) ⟨Nat.zero_le _, Nat.zero_le _⟩ d_OB_told_36 ?_
      refine lv_if_ne (tgt := 52) hx hb d_OB_told_39 (by decide) (fun c3 => ?_) (fun c3 => ?_)
      · exact absurd h0 c3
      · exact ok_throw (E := "java/lang/IllegalStateException") (tx := "no plan was found") F hlk hout hZ hfl (List.mem_of_getElem? (i := 3) rfl) th_xw3 (tt3 49 rfl rfl) (tt3 59 rfl rfl) (List.mem_of_getElem? (i := 14) rfl) hl.1 ⟨Nat.le_of_ble_eq_true rfl, Nat.le_of_ble_eq_true rfl, Nat.le_refl _, Nat.le_refl _⟩ d_OB_told_42 d_OB_told_45 d_OB_told_46 d_OB_told_48 d_OB_told_51
    · first | exact absurd c2 h2 | exact absurd h2 c2
  · refine lv_iload_n hx hb d_OB_told_4 rfl (lv_at hl 1 rfl) ?_
    refine lv_iconst (v := 1) hx hb d_OB_told_5 (by decide) ?_
    refine lv_icmp_eq (tgt := 19) hx hb d_OB_told_6 (by decide) (fun c4 => ?_) (fun c4 => ?_)
    · refine lv_iload_n hx hb d_OB_told_19 rfl (lv_at hl 1 rfl) ?_
      refine lv_iconst (v := 1) hx hb d_OB_told_20 (by decide) ?_
      refine lv_icmp_ne (tgt := 32) hx hb d_OB_told_21 (by decide) (fun c5 => ?_) (fun c5 => ?_)
      · refine lv_aload_n hx hb d_OB_told_32 rfl (lv_at hl 0 rfl) ?_
        refine gf_OB_search F hK hP d_OB_told_33 ?_
        refine x_Se_hasFound hfo F (tt3 45 rfl rfl) ⟨Nat.le_of_ble_eq_true rfl, Nat.le_of_ble_eq_true rfl⟩ hK hP hl.1 (Nat.le_of_ble_eq_true rfl) ⟨Nat.zero_le _, Nat.zero_le _⟩ d_OB_told_36 ?_
        refine lv_if_ne (tgt := 52) hx hb d_OB_told_39 (by decide) (fun c6 => ?_) (fun c6 => ?_)
        · exact absurd h0 c6
        · exact ok_throw (E := "java/lang/IllegalStateException") (tx := "no plan was found") F hlk hout hZ hfl (List.mem_of_getElem? (i := 3) rfl) th_xw3 (tt3 49 rfl rfl) (tt3 59 rfl rfl) (List.mem_of_getElem? (i := 14) rfl) hl.1 ⟨Nat.le_of_ble_eq_true rfl, Nat.le_of_ble_eq_true rfl, Nat.le_refl _, Nat.le_refl _⟩ d_OB_told_42 d_OB_told_45 d_OB_told_46 d_OB_told_48 d_OB_told_51
      · first | exact absurd c5 h2 | exact absurd h2 c5
    · exact absurd h1 (fun q => q.elim c1 c4)
set_option maxHeartbeats 4000000 in
set_option maxRecDepth 100000 in
theorem c_OB_value_1 (hfl : l.flags = pinnedFlags ++ [noTraceFlag]) (σ : oS) {x : Int32} (h0 : ¬ ob_c σ x = 0) : ok_MT l y_OB_value (Cond.code y_OB_value b_OB_value 2 (some .int) :: tt) { frames := 6, cells := 1, slots := 6, locals := 82 } D vwCl (ot cI cL) (ow cI cL ad σ) [.ref (ad 0), .int x] "java/lang/IndexOutOfBoundsException" := by
  refine ok_startT (cc := b_OB_value) (own := ROB) (maxL := 2) (ret := (some .int)) (by decide +kernel) rfl rfl (Nat.le_of_ble_eq_true rfl) ?_
  intro p e s m below meth c F hlk hout hP hK hZ ls hl
  have hl : lv_has ls 2 [(0, .ref (ad 0)), (1, .int x)] := hl
  have hx := F.1
  have hb := F.2.1
  refine lv_aload_n hx hb d_OB_value_0 rfl (lv_at hl 0 rfl) ?_
  refine lv_iload_n hx hb d_OB_value_1 rfl (lv_at hl 1 rfl) ?_
  refine x_OB_isNoColumn F (tt2 177 rfl rfl) ⟨Nat.le_of_ble_eq_true rfl, Nat.le_of_ble_eq_true rfl⟩ hK hP hl.1 (Nat.le_of_ble_eq_true rfl) ⟨Nat.zero_le _, Nat.zero_le _⟩ d_OB_value_2 ?_
  refine lv_if_eq (tgt := 18) hx hb d_OB_value_5 (by decide) (fun c1 => ?_) (fun c1 => ?_)
  · exact absurd c1 h0
  · exact ok_throw (E := "java/lang/IndexOutOfBoundsException") (tx := "no such column") F hlk hout hZ hfl (List.mem_of_getElem? (i := 2) rfl) th_xw2 (tt2 161 rfl rfl) (tt2 171 rfl rfl) (List.mem_of_getElem? (i := 7) rfl) hl.1 ⟨Nat.le_of_ble_eq_true rfl, Nat.le_of_ble_eq_true rfl, Nat.le_refl _, Nat.le_refl _⟩ d_OB_value_8 d_OB_value_11 d_OB_value_12 d_OB_value_14 d_OB_value_17
set_option maxHeartbeats 4000000 in
set_option maxRecDepth 100000 in
theorem c_OB_value_2 (hfl : l.flags = pinnedFlags ++ [noTraceFlag]) (σ : oS) (hfo : σ 17 0 0 = 0 ∨ σ 17 0 0 = 1) {x : Int32} (h1 : ob_c σ x = 0) (h0 : σ 17 0 0 = 0) : ok_MT l y_OB_value (Cond.code y_OB_value b_OB_value 2 (some .int) :: tt) { frames := 6, cells := 1, slots := 6, locals := 82 } D vwCl (ot cI cL) (ow cI cL ad σ) [.ref (ad 0), .int x] "java/lang/IllegalStateException" := by
  refine ok_startT (cc := b_OB_value) (own := ROB) (maxL := 2) (ret := (some .int)) (by decide +kernel) rfl rfl (Nat.le_of_ble_eq_true rfl) ?_
  intro p e s m below meth c F hlk hout hP hK hZ ls hl
  have hl : lv_has ls 2 [(0, .ref (ad 0)), (1, .int x)] := hl
  have hx := F.1
  have hb := F.2.1
  refine lv_aload_n hx hb d_OB_value_0 rfl (lv_at hl 0 rfl) ?_
  refine lv_iload_n hx hb d_OB_value_1 rfl (lv_at hl 1 rfl) ?_
  refine x_OB_isNoColumn F (tt2 177 rfl rfl) ⟨Nat.le_of_ble_eq_true rfl, Nat.le_of_ble_eq_true rfl⟩ hK hP hl.1 (Nat.le_of_ble_eq_true rfl) ⟨Nat.zero_le _, Nat.zero_le _⟩ d_OB_value_2 ?_
  refine lv_if_eq (tgt := 18) hx hb d_OB_value_5 (by decide) (fun c1 => ?_) (fun c1 => ?_)
  · refine lv_aload_n hx hb d_OB_value_18 rfl (lv_at hl 0 rfl) ?_
    refine gf_OB_search F hK hP d_OB_value_19 ?_
    refine x_Se_hasFound hfo F (tt3 45 rfl rfl) ⟨Nat.le_of_ble_eq_true rfl, Nat.le_of_ble_eq_true rfl⟩ hK hP hl.1 (Nat.le_of_ble_eq_true rfl) ⟨Nat.zero_le _, Nat.zero_le _⟩ d_OB_value_22 ?_
    refine lv_if_ne (tgt := 38) hx hb d_OB_value_25 (by decide) (fun c2 => ?_) (fun c2 => ?_)
    · exact absurd h0 c2
    · exact ok_throw (E := "java/lang/IllegalStateException") (tx := "no plan was found") F hlk hout hZ hfl (List.mem_of_getElem? (i := 3) rfl) th_xw3 (tt3 49 rfl rfl) (tt3 59 rfl rfl) (List.mem_of_getElem? (i := 14) rfl) hl.1 ⟨Nat.le_of_ble_eq_true rfl, Nat.le_of_ble_eq_true rfl, Nat.le_refl _, Nat.le_refl _⟩ d_OB_value_28 d_OB_value_31 d_OB_value_32 d_OB_value_34 d_OB_value_37
  · exact absurd h1 c1
set_option maxHeartbeats 4000000 in
set_option maxRecDepth 100000 in
theorem c_OB_multiplier_1 (hfl : l.flags = pinnedFlags ++ [noTraceFlag]) (σ : oS) {x : Int32} {y : Int32} (h0 : ¬ (¬ x < 0 ∧ x < σ 9 0 0 + σ 10 0 0)) : ok_MT l y_OB_multiplier (Cond.code y_OB_multiplier b_OB_multiplier 4 none :: tt) { frames := 6, cells := 1, slots := 6, locals := 82 } D vwCl (ot cI cL) (ow cI cL ad σ) [.ref (ad 0), .int x, .int y] "java/lang/IndexOutOfBoundsException" := by
  refine ok_startT (cc := b_OB_multiplier) (own := ROB) (maxL := 4) (ret := none) (by decide +kernel) rfl rfl (Nat.le_of_ble_eq_true rfl) ?_
  intro p e s m below meth c F hlk hout hP hK hZ ls hl
  have hl : lv_has ls 4 [(0, .ref (ad 0)), (1, .int x), (2, .int y)] := hl
  have hx := F.1
  have hb := F.2.1
  refine lv_iload_n hx hb d_OB_multiplier_0 rfl (lv_at hl 1 rfl) ?_
  refine lv_if_lt (tgt := 15) hx hb d_OB_multiplier_1 (by decide) (fun c1 => ?_) (fun c1 => ?_)
  · exact ok_throw (E := "java/lang/IndexOutOfBoundsException") (tx := "no such row or cut") F hlk hout hZ hfl (List.mem_of_getElem? (i := 2) rfl) th_xw2 (tt2 161 rfl rfl) (tt2 171 rfl rfl) (List.mem_of_getElem? (i := 15) rfl) hl.1 ⟨Nat.le_of_ble_eq_true rfl, Nat.le_of_ble_eq_true rfl, Nat.le_refl _, Nat.le_refl _⟩ d_OB_multiplier_15 d_OB_multiplier_18 d_OB_multiplier_19 d_OB_multiplier_21 d_OB_multiplier_24
  · refine lv_iload_n hx hb d_OB_multiplier_4 rfl (lv_at hl 1 rfl) ?_
    refine lv_aload_n hx hb d_OB_multiplier_5 rfl (lv_at hl 0 rfl) ?_
    refine gf_OB_lines F hK hP d_OB_multiplier_6 ?_
    refine x_Ls_count F (tt1 202 rfl rfl) ⟨Nat.le_of_ble_eq_true rfl, Nat.le_of_ble_eq_true rfl⟩ hK hP hl.1 (Nat.le_of_ble_eq_true rfl) ⟨Nat.zero_le _, Nat.zero_le _⟩ d_OB_multiplier_9 ?_
    refine lv_icmp_lt (tgt := 25) hx hb d_OB_multiplier_12 (by decide) (fun c2 => ?_) (fun c2 => ?_)
    · exact absurd ⟨c1, c2⟩ h0
    · exact ok_throw (E := "java/lang/IndexOutOfBoundsException") (tx := "no such row or cut") F hlk hout hZ hfl (List.mem_of_getElem? (i := 2) rfl) th_xw2 (tt2 161 rfl rfl) (tt2 171 rfl rfl) (List.mem_of_getElem? (i := 15) rfl) hl.1 ⟨Nat.le_of_ble_eq_true rfl, Nat.le_of_ble_eq_true rfl, Nat.le_refl _, Nat.le_refl _⟩ d_OB_multiplier_15 d_OB_multiplier_18 d_OB_multiplier_19 d_OB_multiplier_21 d_OB_multiplier_24
set_option maxHeartbeats 4000000 in
set_option maxRecDepth 100000 in
theorem c_OB_multiplier_2 (hfl : l.flags = pinnedFlags ++ [noTraceFlag]) (σ : oS) {r : Nat} {u : Nat} (h_r : σ 9 0 0 = nI r) (h_u : σ 10 0 0 = nI u) (hr4 : r ≤ 4) (hu4 : u ≤ 4) {x : Int32} {k : Nat} (hk : x = nI k) (hk9 : k < 8) {y : Int32} (hk8 : k < r + u) (h1 : ¬ x < 0) (h2 : x < σ 9 0 0 + σ 10 0 0) (h0 : li_w σ (ls_i r k) y = 0) : ok_MT l y_OB_multiplier (Cond.code y_OB_multiplier b_OB_multiplier 4 none :: tt) { frames := 6, cells := 1, slots := 6, locals := 82 } D vwCl (ot cI cL) (ow cI cL ad σ) [.ref (ad 0), .int x, .int y] "java/lang/IllegalArgumentException" := by
  refine ok_startT (cc := b_OB_multiplier) (own := ROB) (maxL := 4) (ret := none) (by decide +kernel) rfl rfl (Nat.le_of_ble_eq_true rfl) ?_
  intro p e s m below meth c F hlk hout hP hK hZ ls hl
  have hl : lv_has ls 4 [(0, .ref (ad 0)), (1, .int x), (2, .int y)] := hl
  have hx := F.1
  have hb := F.2.1
  refine lv_iload_n hx hb d_OB_multiplier_0 rfl (lv_at hl 1 rfl) ?_
  refine lv_if_lt (tgt := 15) hx hb d_OB_multiplier_1 (by decide) (fun c1 => ?_) (fun c1 => ?_)
  · first | exact absurd c1 h1 | exact absurd h2 c1
  · refine lv_iload_n hx hb d_OB_multiplier_4 rfl (lv_at hl 1 rfl) ?_
    refine lv_aload_n hx hb d_OB_multiplier_5 rfl (lv_at hl 0 rfl) ?_
    refine gf_OB_lines F hK hP d_OB_multiplier_6 ?_
    refine x_Ls_count F (tt1 202 rfl rfl) ⟨Nat.le_of_ble_eq_true rfl, Nat.le_of_ble_eq_true rfl⟩ hK hP hl.1 (Nat.le_of_ble_eq_true rfl) ⟨Nat.zero_le _, Nat.zero_le _⟩ d_OB_multiplier_9 ?_
    refine lv_icmp_lt (tgt := 25) hx hb d_OB_multiplier_12 (by decide) (fun c2 => ?_) (fun c2 => ?_)
    · refine lv_aload_n hx hb d_OB_multiplier_25 rfl (lv_at hl 0 rfl) ?_
      refine gf_OB_lines F hK hP d_OB_multiplier_26 ?_
      refine lv_iload_n hx hb d_OB_multiplier_29 rfl (lv_at hl 1 rfl) ?_
      refine x_Ls_at (r := r) (u := u) h_r h_u hr4 hu4 (k := k) hk (by omega) (by omega) F (tt1 203 rfl rfl) ⟨Nat.le_of_ble_eq_true rfl, Nat.le_of_ble_eq_true rfl⟩ hK hP hl.1 (Nat.le_of_ble_eq_true rfl) ⟨Nat.zero_le _, Nat.zero_le _⟩ d_OB_multiplier_30 ?_
      refine lv_astore_n (lv' := [(3, .ref (ad (4 * ls_i r k + 14))), (0, .ref (ad 0)), (1, .int x), (2, .int y)]) hx hb d_OB_multiplier_33 rfl hl (by decide) rfl (fun ls hl => ?_)
      refine lv_aload_n hx hb d_OB_multiplier_34 rfl (lv_at hl 0 rfl) ?_
      refine lv_iload_n hx hb d_OB_multiplier_35 rfl (lv_at hl 3 rfl) ?_
      refine x_Li_allowsWeight (i := (ls_i r k)) (ls_i_lt hr4 hu4 (by omega)) F (tt3 88 rfl rfl) ⟨Nat.le_of_ble_eq_true rfl, Nat.le_of_ble_eq_true rfl⟩ hK hP hl.1 (Nat.le_of_ble_eq_true rfl) ⟨Nat.zero_le _, Nat.zero_le _⟩ d_OB_multiplier_36 ?_
      refine lv_if_ne (tgt := 52) hx hb d_OB_multiplier_39 (by decide) (fun c3 => ?_) (fun c3 => ?_)
      · exact absurd h0 c3
      · exact ok_throw (E := "java/lang/IllegalArgumentException") (tx := "multiplier is out of range") F hlk hout hZ hfl (List.mem_of_getElem? (i := 0) rfl) th_xw0 (tt2 6 rfl rfl) (tt2 49 rfl rfl) (List.mem_of_getElem? (i := 16) rfl) hl.1 ⟨Nat.le_of_ble_eq_true rfl, Nat.le_of_ble_eq_true rfl, Nat.le_refl _, Nat.le_refl _⟩ d_OB_multiplier_42 d_OB_multiplier_45 d_OB_multiplier_46 d_OB_multiplier_48 d_OB_multiplier_51
    · first | exact absurd c2 h1 | exact absurd h2 c2
set_option maxHeartbeats 4000000 in
set_option maxRecDepth 100000 in
theorem c_OB_follow_1 (hfl : l.flags = pinnedFlags ++ [noTraceFlag]) (σ : oS) {x : Int32} {y : Int32} (h0 : ¬ ob_p σ x y = 0) : ok_MT l y_OB_follow (Cond.code y_OB_follow b_OB_follow 3 (some .int) :: tt) { frames := 6, cells := 1, slots := 6, locals := 82 } D vwCl (ot cI cL) (ow cI cL ad σ) [.ref (ad 0), .int x, .int y] "java/lang/IndexOutOfBoundsException" := by
  refine ok_startT (cc := b_OB_follow) (own := ROB) (maxL := 3) (ret := (some .int)) (by decide +kernel) rfl rfl (Nat.le_of_ble_eq_true rfl) ?_
  intro p e s m below meth c F hlk hout hP hK hZ ls hl
  have hl : lv_has ls 3 [(0, .ref (ad 0)), (1, .int x), (2, .int y)] := hl
  have hx := F.1
  have hb := F.2.1
  refine lv_aload_n hx hb d_OB_follow_0 rfl (lv_at hl 0 rfl) ?_
  refine lv_iload_n hx hb d_OB_follow_1 rfl (lv_at hl 1 rfl) ?_
  refine lv_iload_n hx hb d_OB_follow_2 rfl (lv_at hl 2 rfl) ?_
  refine x_OB_isNoPair F (tt2 202 rfl rfl) ⟨Nat.le_of_ble_eq_true rfl, Nat.le_of_ble_eq_true rfl⟩ hK hP hl.1 (Nat.le_of_ble_eq_true rfl) ⟨Nat.zero_le _, Nat.zero_le _⟩ d_OB_follow_3 ?_
  refine lv_if_eq (tgt := 19) hx hb d_OB_follow_6 (by decide) (fun c1 => ?_) (fun c1 => ?_)
  · exact absurd c1 h0
  · exact ok_throw (E := "java/lang/IndexOutOfBoundsException") (tx := "no such pair of columns") F hlk hout hZ hfl (List.mem_of_getElem? (i := 2) rfl) th_xw2 (tt2 161 rfl rfl) (tt2 171 rfl rfl) (List.mem_of_getElem? (i := 9) rfl) hl.1 ⟨Nat.le_of_ble_eq_true rfl, Nat.le_of_ble_eq_true rfl, Nat.le_refl _, Nat.le_refl _⟩ d_OB_follow_9 d_OB_follow_12 d_OB_follow_13 d_OB_follow_15 d_OB_follow_18
set_option maxHeartbeats 4000000 in
set_option maxRecDepth 100000 in
theorem c_OB_follow_2 (hfl : l.flags = pinnedFlags ++ [noTraceFlag]) (σ : oS) {x : Int32} {j : Nat} (hj : x = nI j) (hj9 : j < 5) {y : Int32} (h1 : ob_p σ x y = 0) (h0 : ¬ (σ 20 0 0 < 10 ∧ fo_b (σ 19 0 j) y = 0)) : ok_MT l y_OB_follow (Cond.code y_OB_follow b_OB_follow 3 (some .int) :: tt) { frames := 6, cells := 1, slots := 6, locals := 82 } D vwCl (ot cI cL) (ow cI cL ad σ) [.ref (ad 0), .int x, .int y] "java/lang/UnsupportedOperationException" := by
  refine ok_startT (cc := b_OB_follow) (own := ROB) (maxL := 3) (ret := (some .int)) (by decide +kernel) rfl rfl (Nat.le_of_ble_eq_true rfl) ?_
  intro p e s m below meth c F hlk hout hP hK hZ ls hl
  have hl : lv_has ls 3 [(0, .ref (ad 0)), (1, .int x), (2, .int y)] := hl
  have hx := F.1
  have hb := F.2.1
  refine lv_aload_n hx hb d_OB_follow_0 rfl (lv_at hl 0 rfl) ?_
  refine lv_iload_n hx hb d_OB_follow_1 rfl (lv_at hl 1 rfl) ?_
  refine lv_iload_n hx hb d_OB_follow_2 rfl (lv_at hl 2 rfl) ?_
  refine x_OB_isNoPair F (tt2 202 rfl rfl) ⟨Nat.le_of_ble_eq_true rfl, Nat.le_of_ble_eq_true rfl⟩ hK hP hl.1 (Nat.le_of_ble_eq_true rfl) ⟨Nat.zero_le _, Nat.zero_le _⟩ d_OB_follow_3 ?_
  refine lv_if_eq (tgt := 19) hx hb d_OB_follow_6 (by decide) (fun c1 => ?_) (fun c1 => ?_)
  · refine lv_aload_n hx hb d_OB_follow_19 rfl (lv_at hl 0 rfl) ?_
    refine gf_OB_follows F hK hP d_OB_follow_20 ?_
    refine x_Fo_count F (tt3 103 rfl rfl) ⟨Nat.le_of_ble_eq_true rfl, Nat.le_of_ble_eq_true rfl⟩ hK hP hl.1 (Nat.le_of_ble_eq_true rfl) ⟨Nat.zero_le _, Nat.zero_le _⟩ d_OB_follow_23 ?_
    refine lv_bipush (v := 10) hx hb d_OB_follow_26 (by decide) ?_
    refine lv_icmp_lt (tgt := 41) hx hb d_OB_follow_28 (by decide) (fun c2 => ?_) (fun c2 => ?_)
    · refine lv_aload_n hx hb d_OB_follow_41 rfl (lv_at hl 0 rfl) ?_
      refine gf_OB_follows F hK hP d_OB_follow_42 ?_
      refine lv_iload_n hx hb d_OB_follow_45 rfl (lv_at hl 1 rfl) ?_
      refine lv_iload_n hx hb d_OB_follow_46 rfl (lv_at hl 2 rfl) ?_
      refine x_Fo_has (j := j) hj (by omega) F (tt3 108 rfl rfl) ⟨Nat.le_of_ble_eq_true rfl, Nat.le_of_ble_eq_true rfl⟩ hK hP hl.1 (Nat.le_of_ble_eq_true rfl) ⟨Nat.zero_le _, Nat.zero_le _⟩ d_OB_follow_47 ?_
      refine lv_if_eq (tgt := 63) hx hb d_OB_follow_50 (by decide) (fun c3 => ?_) (fun c3 => ?_)
      · exact absurd ⟨c2, c3⟩ h0
      · exact ok_throw (E := "java/lang/UnsupportedOperationException") (tx := "the pair follows already") F hlk hout hZ hfl (List.mem_of_getElem? (i := 1) rfl) th_xw1 (tt2 76 rfl rfl) (tt2 86 rfl rfl) (List.mem_of_getElem? (i := 18) rfl) hl.1 ⟨Nat.le_of_ble_eq_true rfl, Nat.le_of_ble_eq_true rfl, Nat.le_refl _, Nat.le_refl _⟩ d_OB_follow_53 d_OB_follow_56 d_OB_follow_57 d_OB_follow_59 d_OB_follow_62
    · exact ok_throw (E := "java/lang/UnsupportedOperationException") (tx := "no room for a pair that follows") F hlk hout hZ hfl (List.mem_of_getElem? (i := 1) rfl) th_xw1 (tt2 76 rfl rfl) (tt2 86 rfl rfl) (List.mem_of_getElem? (i := 17) rfl) hl.1 ⟨Nat.le_of_ble_eq_true rfl, Nat.le_of_ble_eq_true rfl, Nat.le_refl _, Nat.le_refl _⟩ d_OB_follow_31 d_OB_follow_34 d_OB_follow_35 d_OB_follow_37 d_OB_follow_40
  · exact absurd h1 c1
set_option maxHeartbeats 4000000 in
set_option maxRecDepth 100000 in
theorem c_OB_chain_1 (hfl : l.flags = pinnedFlags ++ [noTraceFlag]) (σ : oS) {x : Int32} (h0 : ¬ 0 ≤ x) : ok_MT l y_OB_chain (Cond.code y_OB_chain b_OB_chain 2 (some .int) :: tt) { frames := 6, cells := 1, slots := 6, locals := 82 } D vwCl (ot cI cL) (ow cI cL ad σ) [.ref (ad 0), .int x] "java/lang/IndexOutOfBoundsException" := by
  refine ok_startT (cc := b_OB_chain) (own := ROB) (maxL := 2) (ret := (some .int)) (by decide +kernel) rfl rfl (Nat.le_of_ble_eq_true rfl) ?_
  intro p e s m below meth c F hlk hout hP hK hZ ls hl
  have hl : lv_has ls 2 [(0, .ref (ad 0)), (1, .int x)] := hl
  have hx := F.1
  have hb := F.2.1
  refine lv_iload_n hx hb d_OB_chain_0 rfl (lv_at hl 1 rfl) ?_
  refine lv_if_ge (tgt := 14) hx hb d_OB_chain_1 (by decide) (fun c1 => ?_) (fun c1 => ?_)
  · exact absurd c1 h0
  · exact ok_throw (E := "java/lang/IndexOutOfBoundsException") (tx := "no such place in a chain") F hlk hout hZ hfl (List.mem_of_getElem? (i := 2) rfl) th_xw2 (tt2 161 rfl rfl) (tt2 171 rfl rfl) (List.mem_of_getElem? (i := 19) rfl) hl.1 ⟨Nat.le_of_ble_eq_true rfl, Nat.le_of_ble_eq_true rfl, Nat.le_refl _, Nat.le_refl _⟩ d_OB_chain_4 d_OB_chain_7 d_OB_chain_8 d_OB_chain_10 d_OB_chain_13
end
