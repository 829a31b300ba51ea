section
variable {l : Launch} {D : va_G} {cI cL : ClassId} {ad : Nat → Nat}
variable {p : Program} {e : Env} {R : Room} {s : State} {m : MethodId} {args : Array Value} {below : List Frame} {meth : Method} {c : Code} {H : Heap} {locs : List Loc} {cells slots : Nat} {Q : State → Prop} {cc : ByteArray} {pc nL index : Nat} {ls : Array Slot} {rest : List Value} {A : Nat → Prop} {H0 : Heap} {cw : Cond} {own : String}
set_option maxHeartbeats 4000000 in
set_option maxRecDepth 100000 in
theorem c_OB_column (σ : oS) {r : Nat} {u : Nat} (h_r : σ 9 0 0 = nI r) (h_u : σ 10 0 0 = nI u) (hr4 : r ≤ 4) (hu4 : u ≤ 4) {n : Nat} (hn : σ 2 0 0 = nI n) (hn5 : n < 5) {x : Int32} {y : Int32} (h1 : ¬ x < -1000) (h2 : x ≤ 1000) (h3 : ¬ y < 0) (h4 : y ≤ 20) : ok_MM l y_OB_column (Cond.code y_OB_column b_OB_column 4 (some .int) :: tt) { frames := 5, cells := 0, slots := 0, locals := 111 } D vwCl (ot cI cL) (ow cI cL ad σ) (ow cI cL ad (se_b (u3 (u3 (u3 σ 0 0 n x) 1 0 n y) 2 0 0 (nI (n + 1))) (n + 1) r u)) [.ref (ad 0), .int x, .int y] (some (.int (nI n))) := by
  refine ok_startM (cc := b_OB_column) (own := ROB) (maxL := 4) (ret := (some .int)) (by decide +kernel) rfl rfl (Nat.le_of_ble_eq_true rfl) ?_
  intro p e s m below meth c A F hr hlk hA hP hK hD hS ls hl
  have hl : lv_has ls 4 [(0, .ref (ad 0)), (1, .int x), (2, .int y)] := hl
  have hx := F.1
  have hb := F.2.1
  refine lv_iload_n hx hb d_OB_column_0 rfl (lv_at hl 1 rfl) ?_
  refine lv_sipush (v := -1000) hx hb d_OB_column_1 (by decide) ?_
  refine lv_icmp_lt (tgt := 14) hx hb d_OB_column_4 (by decide) (fun c1 => ?_) (fun c1 => ?_)
  · first | exact absurd c1 h1 | exact absurd h2 c1
  · refine lv_iload_n hx hb d_OB_column_7 rfl (lv_at hl 1 rfl) ?_
    refine lv_sipush (v := 1000) hx hb d_OB_column_8 (by decide) ?_
    refine lv_icmp_le (tgt := 24) hx hb d_OB_column_11 (by decide) (fun c2 => ?_) (fun c2 => ?_)
    · refine lv_iload_n hx hb d_OB_column_24 rfl (lv_at hl 2 rfl) ?_
      refine lv_if_lt (tgt := 34) hx hb d_OB_column_25 (by decide) (fun c3 => ?_) (fun c3 => ?_)
      · first | exact absurd c3 h3 | exact absurd h4 c3
      · refine lv_iload_n hx hb d_OB_column_28 rfl (lv_at hl 2 rfl) ?_
        refine lv_bipush (v := 20) hx hb d_OB_column_29 (by decide) ?_
        refine lv_icmp_le (tgt := 44) hx hb d_OB_column_31 (by decide) (fun c4 => ?_) (fun c4 => ?_)
        · refine lv_aload_n hx hb d_OB_column_44 rfl (lv_at hl 0 rfl) ?_
          refine gf_OB_columns F hK hP d_OB_column_45 ?_
          refine x_Co_count F (tt1 174 rfl rfl) ⟨Nat.le_of_ble_eq_true rfl, Nat.le_of_ble_eq_true rfl⟩ hK hP hl.1 (Nat.le_of_ble_eq_true rfl) ⟨Nat.zero_le _, Nat.zero_le _⟩ d_OB_column_48 ?_
          refine lv_iconst (v := 5) hx hb d_OB_column_51 (by decide) ?_
          refine lv_icmp_lt (tgt := 65) hx hb d_OB_column_52 (by decide) (fun c5 => ?_) (fun c5 => ?_)
          · refine lv_aload_n hx hb d_OB_column_65 rfl (lv_at hl 0 rfl) ?_
            refine gf_OB_columns F hK hP d_OB_column_66 ?_
            refine lv_iload_n hx hb d_OB_column_69 rfl (lv_at hl 1 rfl) ?_
            refine lv_iload_n hx hb d_OB_column_70 rfl (lv_at hl 2 rfl) ?_
            refine x_Co_add (n := n) hn hn5 F (tt2 92 rfl rfl) ⟨Nat.le_of_ble_eq_true rfl, Nat.le_of_ble_eq_true rfl⟩ hK hP hD hS hA hl.1 (Nat.le_of_ble_eq_true rfl) ⟨Nat.zero_le _, Nat.zero_le _⟩ d_OB_column_71 (fun H locs hP hD hS => ?_)
            refine lv_istore_n (lv' := [(3, .int (nI n)), (0, .ref (ad 0)), (1, .int x), (2, .int y)]) hx hb d_OB_column_74 rfl hl (by decide) rfl (fun ls hl => ?_)
            refine lv_aload_n hx hb d_OB_column_75 rfl (lv_at hl 1 rfl) ?_
            refine gf_OB_search F hK hP d_OB_column_76 ?_
            refine x_Se_begin (r := r) (u := u) (by simp [u3_at, nI_1, h_r, h_u, hn]) (by simp [u3_at, nI_1, h_r, h_u, hn]) (by omega) (by omega) (n := (n + 1)) (by simp [u3_at, nI_1, h_r, h_u, hn]) (by omega) F (tt2 96 rfl rfl) ⟨Nat.le_of_ble_eq_true rfl, Nat.le_of_ble_eq_true rfl⟩ hK hP hD hS hA hl.1 (Nat.le_of_ble_eq_true rfl) ⟨Nat.zero_le _, Nat.zero_le _⟩ d_OB_column_79 (fun H locs hP hD hS => ?_)
            refine lv_iload_n hx hb d_OB_column_82 rfl (lv_at hl 0 rfl) ?_
            exact ok_iretM F hr hlk hP hD hS (rfl) d_OB_column_83
          · exact absurd (by rw [hn, show (5 : Int32) = nI 5 from rfl]; exact nI_lt (by omega) (by omega)) c5
        · first | exact absurd c4 h3 | exact absurd h4 c4
    · first | exact absurd c2 h1 | exact absurd h2 c2
theorem x_OB_column {σ : oS} {r : Nat} {u : Nat} (h_r : σ 9 0 0 = nI r) (h_u : σ 10 0 0 = nI u) (hr4 : r ≤ 4) (hu4 : u ≤ 4) {n : Nat} (hn : σ 2 0 0 = nI n) (hn5 : n < 5) {x : Int32} {y : Int32} (h1 : ¬ x < -1000) (h2 : x ≤ 1000) (h3 : ¬ y < 0) (h4 : y ≤ 20) (F : CallFix p m c cc nL s args (cw :: tt) own) (hG : Cond.methodLink own index y_OB_column ∈ tt) (hR : 5 + 1 ≤ R.frames ∧ 8 + (4 + 11) + 111 ≤ R.locals) (hK : va_K D vwCl (ot cI cL) s) (hP : va_P D vwCl (ow cI cL ad σ) H) (hD : va_D A (ow cI cL ad σ)) (hS : va_S A H0 H locs) (hA : ∀ q, H0.size ≤ q → A q) (hsz : ls.size = nL) (hW : (rest.map fun v => v.category).sum ≤ 8) (hcs : cells ≤ R.cells ∧ slots ≤ R.slots) (hdg : decode cc pc = .ok (.invokevirtual index, 3)) (kk : ∀ (H1 : Heap) (locs1 : List Loc), va_P D vwCl (ow cI cL ad (se_b (u3 (u3 (u3 σ 0 0 n x) 1 0 n y) 2 0 0 (nI (n + 1))) (n + 1) r u)) H1 → va_D A (ow cI cL ad (se_b (u3 (u3 (u3 σ 0 0 n x) 1 0 n y) 2 0 0 (nI (n + 1))) (n + 1) r u)) → va_S A H0 H1 locs1 → W p l e R s m args below meth c H1 locs1 cells slots Q (F0 m (pc + 3) ls (.int (nI n) :: rest))) : W p l e R s m args below meth c H locs cells slots Q (F0 m pc ls (.int y :: .int x :: .ref (ad 0) :: rest)) :=
  ok_VM (As := [.int x, .int y]) F (c_OB_column σ h_r h_u hr4 hu4 hn hn5 h1 h2 h3 h4) 2 (tt_V hG i_OB_column l_OB_column in9_OB k_OB_column) rfl ⟨rfl, rfl⟩ (by decide +kernel) hR hK hP hD hS hA (0) 5 rfl rfl ow_0 rfl hsz rfl hW hcs hdg kk
set_option maxHeartbeats 4000000 in
set_option maxRecDepth 100000 in
theorem c_OB_row (σ : oS) {r : Nat} {u : Nat} (h_r : σ 9 0 0 = nI r) (h_u : σ 10 0 0 = nI u) (hr4 : r ≤ 4) (hu4 : u ≤ 4) {n : Nat} (hn : σ 2 0 0 = nI n) (hn9 : n ≤ 5) (hr3 : r < 4) {x : Int32} {y : Int32} (h1 : x = 0 ∨ x = 1) (h2 : ob_v y = 0) : ok_MM l y_OB_row (Cond.code y_OB_row b_OB_row 4 (some .int) :: tt) { frames := 5, cells := 0, slots := 0, locals := 111 } D vwCl (ot cI cL) (ow cI cL ad σ) (ow cI cL ad (se_b (ls_z (u3 (u3 (u3 σ 4 r 0 x) 5 r 0 y) 9 0 0 (nI (r + 1))) (r + 1) (r + 1 + u)) n (r + 1) u)) [.ref (ad 0), .int x, .int y] (some (.int (nI r))) := by
  refine ok_startM (cc := b_OB_row) (own := ROB) (maxL := 4) (ret := (some .int)) (by decide +kernel) rfl rfl (Nat.le_of_ble_eq_true rfl) ?_
  intro p e s m below meth c A F hr hlk hA hP hK hD hS ls hl
  have hl : lv_has ls 4 [(0, .ref (ad 0)), (1, .int x), (2, .int y)] := hl
  have hx := F.1
  have hb := F.2.1
  refine lv_iload_n hx hb d_OB_row_0 rfl (lv_at hl 1 rfl) ?_
  refine lv_if_eq (tgt := 19) hx hb d_OB_row_1 (by decide) (fun c1 => ?_) (fun c1 => ?_)
  · refine lv_iload_n hx hb d_OB_row_19 rfl (lv_at hl 2 rfl) ?_
    refine x_OB_isNoRight F (tt2 120 rfl rfl) ⟨Nat.le_of_ble_eq_true rfl, Nat.le_of_ble_eq_true rfl⟩ hK hP hl.1 (Nat.le_of_ble_eq_true rfl) ⟨Nat.zero_le _, Nat.zero_le _⟩ d_OB_row_20 ?_
    refine lv_if_eq (tgt := 36) hx hb d_OB_row_23 (by decide) (fun c2 => ?_) (fun c2 => ?_)
    · refine lv_aload_n hx hb d_OB_row_36 rfl (lv_at hl 0 rfl) ?_
      refine gf_OB_lines F hK hP d_OB_row_37 ?_
      refine x_Ls_rowCount F (tt2 124 rfl rfl) ⟨Nat.le_of_ble_eq_true rfl, Nat.le_of_ble_eq_true rfl⟩ hK hP hl.1 (Nat.le_of_ble_eq_true rfl) ⟨Nat.zero_le _, Nat.zero_le _⟩ d_OB_row_40 ?_
      refine lv_iconst (v := 4) hx hb d_OB_row_43 (by decide) ?_
      refine lv_icmp_lt (tgt := 57) hx hb d_OB_row_44 (by decide) (fun c3 => ?_) (fun c3 => ?_)
      · refine lv_aload_n hx hb d_OB_row_57 rfl (lv_at hl 0 rfl) ?_
        refine gf_OB_lines F hK hP d_OB_row_58 ?_
        refine lv_iload_n hx hb d_OB_row_61 rfl (lv_at hl 1 rfl) ?_
        refine lv_iload_n hx hb d_OB_row_62 rfl (lv_at hl 2 rfl) ?_
        refine x_Ls_addRow (r := r) (u := u) h_r h_u hr4 hu4 hr3 F (tt2 129 rfl rfl) ⟨Nat.le_of_ble_eq_true rfl, Nat.le_of_ble_eq_true rfl⟩ hK hP hD hS hA hl.1 (Nat.le_of_ble_eq_true rfl) ⟨Nat.zero_le _, Nat.zero_le _⟩ d_OB_row_63 (fun H locs hP hD hS => ?_)
        refine lv_istore_n (lv' := [(3, .int (nI r)), (0, .ref (ad 0)), (1, .int x), (2, .int y)]) hx hb d_OB_row_66 rfl hl (by decide) rfl (fun ls hl => ?_)
        refine lv_aload_n hx hb d_OB_row_67 rfl (lv_at hl 1 rfl) ?_
        refine gf_OB_search F hK hP d_OB_row_68 ?_
        refine x_Se_begin (r := (r + 1)) (u := u) (by simp [ls_z_c, u3_at, nI_1, h_r, h_u, hn]) (by simp [ls_z_c, u3_at, nI_1, h_r, h_u, hn]) (by omega) (by omega) (n := n) (by simp [ls_z_c, u3_at, nI_1, h_r, h_u, hn]) (by omega) F (tt2 96 rfl rfl) ⟨Nat.le_of_ble_eq_true rfl, Nat.le_of_ble_eq_true rfl⟩ hK hP hD hS hA hl.1 (Nat.le_of_ble_eq_true rfl) ⟨Nat.zero_le _, Nat.zero_le _⟩ d_OB_row_71 (fun H locs hP hD hS => ?_)
        refine lv_iload_n hx hb d_OB_row_74 rfl (lv_at hl 0 rfl) ?_
        exact ok_iretM F hr hlk hP hD hS (rfl) d_OB_row_75
      · exact absurd (by rw [h_r, show (4 : Int32) = nI 4 from rfl]; exact nI_lt (by omega) (by omega)) c3
    · exact absurd h2 c2
  · refine lv_iload_n hx hb d_OB_row_4 rfl (lv_at hl 1 rfl) ?_
    refine lv_iconst (v := 1) hx hb d_OB_row_5 (by decide) ?_
    refine lv_icmp_eq (tgt := 19) hx hb d_OB_row_6 (by decide) (fun c4 => ?_) (fun c4 => ?_)
    · refine lv_iload_n hx hb d_OB_row_19 rfl (lv_at hl 2 rfl) ?_
      refine x_OB_isNoRight F (tt2 120 rfl rfl) ⟨Nat.le_of_ble_eq_true rfl, Nat.le_of_ble_eq_true rfl⟩ hK hP hl.1 (Nat.le_of_ble_eq_true rfl) ⟨Nat.zero_le _, Nat.zero_le _⟩ d_OB_row_20 ?_
      refine lv_if_eq (tgt := 36) hx hb d_OB_row_23 (by decide) (fun c5 => ?_) (fun c5 => ?_)
      · refine lv_aload_n hx hb d_OB_row_36 rfl (lv_at hl 0 rfl) ?_
        refine gf_OB_lines F hK hP d_OB_row_37 ?_
        refine x_Ls_rowCount F (tt2 124 rfl rfl) ⟨Nat.le_of_ble_eq_true rfl, Nat.le_of_ble_eq_true rfl⟩ hK hP hl.1 (Nat.le_of_ble_eq_true rfl) ⟨Nat.zero_le _, Nat.zero_le _⟩ d_OB_row_40 ?_
        refine lv_iconst (v := 4) hx hb d_OB_row_43 (by decide) ?_
        refine lv_icmp_lt (tgt := 57) hx hb d_OB_row_44 (by decide) (fun c6 => ?_) (fun c6 => ?_)
        · refine lv_aload_n hx hb d_OB_row_57 rfl (lv_at hl 0 rfl) ?_
          refine gf_OB_lines F hK hP d_OB_row_58 ?_
          refine lv_iload_n hx hb d_OB_row_61 rfl (lv_at hl 1 rfl) ?_
          refine lv_iload_n hx hb d_OB_row_62 rfl (lv_at hl 2 rfl) ?_
          refine x_Ls_addRow (r := r) (u := u) h_r h_u hr4 hu4 hr3 F (tt2 129 rfl rfl) ⟨Nat.le_of_ble_eq_true rfl, Nat.le_of_ble_eq_true rfl⟩ hK hP hD hS hA hl.1 (Nat.le_of_ble_eq_true rfl) ⟨Nat.zero_le _, Nat.zero_le _⟩ d_OB_row_63 (fun H locs hP hD hS => ?_)
          refine lv_istore_n (lv' := [(3, .int (nI r)), (0, .ref (ad 0)), (1, .int x), (2, .int y)]) hx hb d_OB_row_66 rfl hl (by decide) rfl (fun ls hl => ?_)
          refine lv_aload_n hx hb d_OB_row_67 rfl (lv_at hl 1 rfl) ?_
          refine gf_OB_search F hK hP d_OB_row_68 ?_
          refine x_Se_begin (r := (r + 1)) (u := u) (by simp [ls_z_c, u3_at, nI_1, h_r, h_u, hn]) (by simp [ls_z_c, u3_at, nI_1, h_r, h_u, hn]) (by omega) (by omega) (n := n) (by simp [ls_z_c, u3_at, nI_1, h_r, h_u, hn]) (by omega) F (tt2 96 rfl rfl) ⟨Nat.le_of_ble_eq_true rfl, Nat.le_of_ble_eq_true rfl⟩ hK hP hD hS hA hl.1 (Nat.le_of_ble_eq_true rfl) ⟨Nat.zero_le _, Nat.zero_le _⟩ d_OB_row_71 (fun H locs hP hD hS => ?_)
          refine lv_iload_n hx hb d_OB_row_74 rfl (lv_at hl 0 rfl) ?_
          exact ok_iretM F hr hlk hP hD hS (rfl) d_OB_row_75
        · exact absurd (by rw [h_r, show (4 : Int32) = nI 4 from rfl]; exact nI_lt (by omega) (by omega)) c6
      · exact absurd h2 c5
    · exact absurd h1 (fun q => q.elim c1 c4)
theorem x_OB_row {σ : oS} {r : Nat} {u : Nat} (h_r : σ 9 0 0 = nI r) (h_u : σ 10 0 0 = nI u) (hr4 : r ≤ 4) (hu4 : u ≤ 4) {n : Nat} (hn : σ 2 0 0 = nI n) (hn9 : n ≤ 5) (hr3 : r < 4) {x : Int32} {y : Int32} (h1 : x = 0 ∨ x = 1) (h2 : ob_v y = 0) (F : CallFix p m c cc nL s args (cw :: tt) own) (hG : Cond.methodLink own index y_OB_row ∈ tt) (hR : 5 + 1 ≤ R.frames ∧ 8 + (4 + 11) + 111 ≤ R.locals) (hK : va_K D vwCl (ot cI cL) s) (hP : va_P D vwCl (ow cI cL ad σ) H) (hD : va_D A (ow cI cL ad σ)) (hS : va_S A H0 H locs) (hA : ∀ q, H0.size ≤ q → A q) (hsz : ls.size = nL) (hW : (rest.map fun v => v.category).sum ≤ 8) (hcs : cells ≤ R.cells ∧ slots ≤ R.slots) (hdg : decode cc pc = .ok (.invokevirtual index, 3)) (kk : ∀ (H1 : Heap) (locs1 : List Loc), va_P D vwCl (ow cI cL ad (se_b (ls_z (u3 (u3 (u3 σ 4 r 0 x) 5 r 0 y) 9 0 0 (nI (r + 1))) (r + 1) (r + 1 + u)) n (r + 1) u)) H1 → va_D A (ow cI cL ad (se_b (ls_z (u3 (u3 (u3 σ 4 r 0 x) 5 r 0 y) 9 0 0 (nI (r + 1))) (r + 1) (r + 1 + u)) n (r + 1) u)) → va_S A H0 H1 locs1 → W p l e R s m args below meth c H1 locs1 cells slots Q (F0 m (pc + 3) ls (.int (nI r) :: rest))) : W p l e R s m args below meth c H locs cells slots Q (F0 m pc ls (.int y :: .int x :: .ref (ad 0) :: rest)) :=
  ok_VM (As := [.int x, .int y]) F (c_OB_row σ h_r h_u hr4 hu4 hn hn9 hr3 h1 h2) 2 (tt_V hG i_OB_row l_OB_row in9_OB k_OB_row) rfl ⟨rfl, rfl⟩ (by decide +kernel) hR hK hP hD hS hA (0) 5 rfl rfl ow_0 rfl hsz rfl hW hcs hdg kk
set_option maxHeartbeats 4000000 in
set_option maxRecDepth 100000 in
theorem c_OB_factor (σ : oS) {r : Nat} {u : Nat} (h_r : σ 9 0 0 = nI r) (h_u : σ 10 0 0 = nI u) (hr4 : r ≤ 4) (hu4 : u ≤ 4) {n : Nat} (hn : σ 2 0 0 = nI n) (hn9 : n ≤ 5) {x : Int32} {k : Nat} (hk : x = nI k) (hk9 : k < 4) {y : Int32} {j : Nat} (hj : y = nI j) (hj9 : j < 5) {v : Int32} (hkr : k < r) (h1 : ob_r σ x = 0) (h2 : ob_c σ y = 0) (h3 : ¬ v < -10) (h4 : v ≤ 10) : ok_MM l y_OB_factor (Cond.code y_OB_factor b_OB_factor 4 none :: tt) { frames := 5, cells := 0, slots := 0, locals := 111 } D vwCl (ot cI cL) (ow cI cL ad σ) (ow cI cL ad (se_b (u3 σ 3 (ls_i r k) j v) n r u)) [.ref (ad 0), .int x, .int y, .int v] none := by
  refine ok_startM (cc := b_OB_factor) (own := ROB) (maxL := 4) (ret := none) (by decide +kernel) rfl rfl (Nat.le_of_ble_eq_true rfl) ?_
  intro p e s m below meth c A F hr hlk hA hP hK hD hS ls hl
  have hl : lv_has ls 4 [(0, .ref (ad 0)), (1, .int x), (2, .int y), (3, .int v)] := hl
  have hx := F.1
  have hb := F.2.1
  refine lv_aload_n hx hb d_OB_factor_0 rfl (lv_at hl 0 rfl) ?_
  refine lv_iload_n hx hb d_OB_factor_1 rfl (lv_at hl 1 rfl) ?_
  refine x_OB_isNoRow F (tt2 157 rfl rfl) ⟨Nat.le_of_ble_eq_true rfl, Nat.le_of_ble_eq_true rfl⟩ hK hP hl.1 (Nat.le_of_ble_eq_true rfl) ⟨Nat.zero_le _, Nat.zero_le _⟩ d_OB_factor_2 ?_
  refine lv_if_eq (tgt := 18) hx hb d_OB_factor_5 (by decide) (fun c1 => ?_) (fun c1 => ?_)
  · refine lv_aload_n hx hb d_OB_factor_18 rfl (lv_at hl 0 rfl) ?_
    refine lv_iload_n hx hb d_OB_factor_19 rfl (lv_at hl 2 rfl) ?_
    refine x_OB_isNoColumn F (tt2 177 rfl rfl) ⟨Nat.le_of_ble_eq_true rfl, Nat.le_of_ble_eq_true rfl⟩ hK hP hl.1 (Nat.le_of_ble_eq_true rfl) ⟨Nat.zero_le _, Nat.zero_le _⟩ d_OB_factor_20 ?_
    refine lv_if_eq (tgt := 36) hx hb d_OB_factor_23 (by decide) (fun c2 => ?_) (fun c2 => ?_)
    · refine lv_iload_n hx hb d_OB_factor_36 rfl (lv_at hl 3 rfl) ?_
      refine lv_bipush (v := -10) hx hb d_OB_factor_37 (by decide) ?_
      refine lv_icmp_lt (tgt := 48) hx hb d_OB_factor_39 (by decide) (fun c3 => ?_) (fun c3 => ?_)
      · first | exact absurd c3 h3 | exact absurd h4 c3
      · refine lv_iload_n hx hb d_OB_factor_42 rfl (lv_at hl 3 rfl) ?_
        refine lv_bipush (v := 10) hx hb d_OB_factor_43 (by decide) ?_
        refine lv_icmp_le (tgt := 58) hx hb d_OB_factor_45 (by decide) (fun c4 => ?_) (fun c4 => ?_)
        · refine lv_aload_n hx hb d_OB_factor_58 rfl (lv_at hl 0 rfl) ?_
          refine gf_OB_lines F hK hP d_OB_factor_59 ?_
          refine lv_iload_n hx hb d_OB_factor_62 rfl (lv_at hl 1 rfl) ?_
          refine x_Ls_at (r := r) (u := u) h_r h_u hr4 hu4 (k := k) hk (by omega) (by omega) F (tt1 203 rfl rfl) ⟨Nat.le_of_ble_eq_true rfl, Nat.le_of_ble_eq_true rfl⟩ hK hP hl.1 (Nat.le_of_ble_eq_true rfl) ⟨Nat.zero_le _, Nat.zero_le _⟩ d_OB_factor_63 ?_
          refine lv_iload_n hx hb d_OB_factor_66 rfl (lv_at hl 2 rfl) ?_
          refine lv_iload_n hx hb d_OB_factor_67 rfl (lv_at hl 3 rfl) ?_
          refine x_Li_setFactor (i := (ls_i r k)) (ls_i_lt hr4 hu4 (by omega)) (j := j) hj (by omega) F (tt2 183 rfl rfl) ⟨Nat.le_of_ble_eq_true rfl, Nat.le_of_ble_eq_true rfl⟩ hK hP hD hS hA hl.1 (Nat.le_of_ble_eq_true rfl) ⟨Nat.zero_le _, Nat.zero_le _⟩ d_OB_factor_68 (fun H locs hP hD hS => ?_)
          refine lv_aload_n hx hb d_OB_factor_71 rfl (lv_at hl 0 rfl) ?_
          refine gf_OB_search F hK hP d_OB_factor_72 ?_
          refine x_Se_begin (r := r) (u := u) (by simp [u3_at, nI_1, h_r, h_u, hn]) (by simp [u3_at, nI_1, h_r, h_u, hn]) (by omega) (by omega) (n := n) (by simp [u3_at, nI_1, h_r, h_u, hn]) (by omega) F (tt2 96 rfl rfl) ⟨Nat.le_of_ble_eq_true rfl, Nat.le_of_ble_eq_true rfl⟩ hK hP hD hS hA hl.1 (Nat.le_of_ble_eq_true rfl) ⟨Nat.zero_le _, Nat.zero_le _⟩ d_OB_factor_75 (fun H locs hP hD hS => ?_)
          exact ok_vretM F hr hlk hP hD hS d_OB_factor_78
        · first | exact absurd c4 h3 | exact absurd h4 c4
    · exact absurd h2 c2
  · exact absurd h1 c1
theorem x_OB_factor {σ : oS} {r : Nat} {u : Nat} (h_r : σ 9 0 0 = nI r) (h_u : σ 10 0 0 = nI u) (hr4 : r ≤ 4) (hu4 : u ≤ 4) {n : Nat} (hn : σ 2 0 0 = nI n) (hn9 : n ≤ 5) {x : Int32} {k : Nat} (hk : x = nI k) (hk9 : k < 4) {y : Int32} {j : Nat} (hj : y = nI j) (hj9 : j < 5) {v : Int32} (hkr : k < r) (h1 : ob_r σ x = 0) (h2 : ob_c σ y = 0) (h3 : ¬ v < -10) (h4 : v ≤ 10) (F : CallFix p m c cc nL s args (cw :: tt) own) (hG : Cond.methodLink own index y_OB_factor ∈ tt) (hR : 5 + 1 ≤ R.frames ∧ 8 + (4 + 11) + 111 ≤ R.locals) (hK : va_K D vwCl (ot cI cL) s) (hP : va_P D vwCl (ow cI cL ad σ) H) (hD : va_D A (ow cI cL ad σ)) (hS : va_S A H0 H locs) (hA : ∀ q, H0.size ≤ q → A q) (hsz : ls.size = nL) (hW : (rest.map fun v => v.category).sum ≤ 8) (hcs : cells ≤ R.cells ∧ slots ≤ R.slots) (hdg : decode cc pc = .ok (.invokevirtual index, 3)) (kk : ∀ (H1 : Heap) (locs1 : List Loc), va_P D vwCl (ow cI cL ad (se_b (u3 σ 3 (ls_i r k) j v) n r u)) H1 → va_D A (ow cI cL ad (se_b (u3 σ 3 (ls_i r k) j v) n r u)) → va_S A H0 H1 locs1 → W p l e R s m args below meth c H1 locs1 cells slots Q (F0 m (pc + 3) ls (rest))) : W p l e R s m args below meth c H locs cells slots Q (F0 m pc ls (.int v :: .int y :: .int x :: .ref (ad 0) :: rest)) :=
  ok_VM (As := [.int x, .int y, .int v]) F (c_OB_factor σ h_r h_u hr4 hu4 hn hn9 hk hk9 hj hj9 hkr h1 h2 h3 h4) 3 (tt_V hG i_OB_factor l_OB_factor in9_OB k_OB_factor) rfl ⟨rfl, rfl⟩ (by decide +kernel) hR hK hP hD hS hA (0) 5 rfl rfl ow_0 rfl hsz rfl hW hcs hdg kk
set_option maxHeartbeats 4000000 in
set_option maxRecDepth 100000 in
theorem c_OB_right (σ : oS) {r : Nat} {u : Nat} (h_r : σ 9 0 0 = nI r) (h_u : σ 10 0 0 = nI u) (hr4 : r ≤ 4) (hu4 : u ≤ 4) {n : Nat} (hn : σ 2 0 0 = nI n) (hn9 : n ≤ 5) {x : Int32} {k : Nat} (hk : x = nI k) (hk9 : k < 4) {y : Int32} (hkr : k < r) (h1 : ob_r σ x = 0) (h2 : ob_v y = 0) : ok_MM l y_OB_right (Cond.code y_OB_right b_OB_right 3 none :: tt) { frames := 5, cells := 0, slots := 0, locals := 111 } D vwCl (ot cI cL) (ow cI cL ad σ) (ow cI cL ad (se_b (u3 σ 5 (ls_i r k) 0 y) n r u)) [.ref (ad 0), .int x, .int y] none := by
  refine ok_startM (cc := b_OB_right) (own := ROB) (maxL := 3) (ret := none) (by decide +kernel) rfl rfl (Nat.le_of_ble_eq_true rfl) ?_
  intro p e s m below meth c A F hr hlk hA hP hK hD hS ls hl
  have hl : lv_has ls 3 [(0, .ref (ad 0)), (1, .int x), (2, .int y)] := hl
  have hx := F.1
  have hb := F.2.1
  refine lv_aload_n hx hb d_OB_right_0 rfl (lv_at hl 0 rfl) ?_
  refine lv_iload_n hx hb d_OB_right_1 rfl (lv_at hl 1 rfl) ?_
  refine x_OB_isNoRow F (tt2 157 rfl rfl) ⟨Nat.le_of_ble_eq_true rfl, Nat.le_of_ble_eq_true rfl⟩ hK hP hl.1 (Nat.le_of_ble_eq_true rfl) ⟨Nat.zero_le _, Nat.zero_le _⟩ d_OB_right_2 ?_
  refine lv_if_eq (tgt := 18) hx hb d_OB_right_5 (by decide) (fun c1 => ?_) (fun c1 => ?_)
  · refine lv_iload_n hx hb d_OB_right_18 rfl (lv_at hl 2 rfl) ?_
    refine x_OB_isNoRight F (tt2 120 rfl rfl) ⟨Nat.le_of_ble_eq_true rfl, Nat.le_of_ble_eq_true rfl⟩ hK hP hl.1 (Nat.le_of_ble_eq_true rfl) ⟨Nat.zero_le _, Nat.zero_le _⟩ d_OB_right_19 ?_
    refine lv_if_eq (tgt := 35) hx hb d_OB_right_22 (by decide) (fun c2 => ?_) (fun c2 => ?_)
    · refine lv_aload_n hx hb d_OB_right_35 rfl (lv_at hl 0 rfl) ?_
      refine gf_OB_lines F hK hP d_OB_right_36 ?_
      refine lv_iload_n hx hb d_OB_right_39 rfl (lv_at hl 1 rfl) ?_
      refine x_Ls_at (r := r) (u := u) h_r h_u hr4 hu4 (k := k) hk (by omega) (by omega) F (tt1 203 rfl rfl) ⟨Nat.le_of_ble_eq_true rfl, Nat.le_of_ble_eq_true rfl⟩ hK hP hl.1 (Nat.le_of_ble_eq_true rfl) ⟨Nat.zero_le _, Nat.zero_le _⟩ d_OB_right_40 ?_
      refine lv_iload_n hx hb d_OB_right_43 rfl (lv_at hl 2 rfl) ?_
      refine x_Li_setRight (i := (ls_i r k)) (ls_i_lt hr4 hu4 (by omega)) F (tt2 194 rfl rfl) ⟨Nat.le_of_ble_eq_true rfl, Nat.le_of_ble_eq_true rfl⟩ hK hP hD hS hA hl.1 (Nat.le_of_ble_eq_true rfl) ⟨Nat.zero_le _, Nat.zero_le _⟩ d_OB_right_44 (fun H locs hP hD hS => ?_)
      refine lv_aload_n hx hb d_OB_right_47 rfl (lv_at hl 0 rfl) ?_
      refine gf_OB_search F hK hP d_OB_right_48 ?_
      refine x_Se_begin (r := r) (u := u) (by simp [u3_at, nI_1, h_r, h_u, hn]) (by simp [u3_at, nI_1, h_r, h_u, hn]) (by omega) (by omega) (n := n) (by simp [u3_at, nI_1, h_r, h_u, hn]) (by omega) F (tt2 96 rfl rfl) ⟨Nat.le_of_ble_eq_true rfl, Nat.le_of_ble_eq_true rfl⟩ hK hP hD hS hA hl.1 (Nat.le_of_ble_eq_true rfl) ⟨Nat.zero_le _, Nat.zero_le _⟩ d_OB_right_51 (fun H locs hP hD hS => ?_)
      exact ok_vretM F hr hlk hP hD hS d_OB_right_54
    · exact absurd h2 c2
  · exact absurd h1 c1
theorem x_OB_right {σ : oS} {r : Nat} {u : Nat} (h_r : σ 9 0 0 = nI r) (h_u : σ 10 0 0 = nI u) (hr4 : r ≤ 4) (hu4 : u ≤ 4) {n : Nat} (hn : σ 2 0 0 = nI n) (hn9 : n ≤ 5) {x : Int32} {k : Nat} (hk : x = nI k) (hk9 : k < 4) {y : Int32} (hkr : k < r) (h1 : ob_r σ x = 0) (h2 : ob_v y = 0) (F : CallFix p m c cc nL s args (cw :: tt) own) (hG : Cond.methodLink own index y_OB_right ∈ tt) (hR : 5 + 1 ≤ R.frames ∧ 8 + (3 + 11) + 111 ≤ R.locals) (hK : va_K D vwCl (ot cI cL) s) (hP : va_P D vwCl (ow cI cL ad σ) H) (hD : va_D A (ow cI cL ad σ)) (hS : va_S A H0 H locs) (hA : ∀ q, H0.size ≤ q → A q) (hsz : ls.size = nL) (hW : (rest.map fun v => v.category).sum ≤ 8) (hcs : cells ≤ R.cells ∧ slots ≤ R.slots) (hdg : decode cc pc = .ok (.invokevirtual index, 3)) (kk : ∀ (H1 : Heap) (locs1 : List Loc), va_P D vwCl (ow cI cL ad (se_b (u3 σ 5 (ls_i r k) 0 y) n r u)) H1 → va_D A (ow cI cL ad (se_b (u3 σ 5 (ls_i r k) 0 y) n r u)) → va_S A H0 H1 locs1 → W p l e R s m args below meth c H1 locs1 cells slots Q (F0 m (pc + 3) ls (rest))) : W p l e R s m args below meth c H locs cells slots Q (F0 m pc ls (.int y :: .int x :: .ref (ad 0) :: rest)) :=
  ok_VM (As := [.int x, .int y]) F (c_OB_right σ h_r h_u hr4 hu4 hn hn9 hk hk9 hkr h1 h2) 2 (tt_V hG i_OB_right l_OB_right in9_OB k_OB_right) rfl ⟨rfl, rfl⟩ (by decide +kernel) hR hK hP hD hS hA (0) 5 rfl rfl ow_0 rfl hsz rfl hW hcs hdg kk
set_option maxHeartbeats 4000000 in
set_option maxRecDepth 100000 in
theorem c_OB_cut (σ : oS) {r : Nat} {u : Nat} (h_r : σ 9 0 0 = nI r) (h_u : σ 10 0 0 = nI u) (hr4 : r ≤ 4) (hu4 : u ≤ 4) {n : Nat} (hn : σ 2 0 0 = nI n) (hn9 : n ≤ 5) (hu3 : u < 4) {x : Int32} {j : Nat} (hj : x = nI j) (hj9 : j < 5) {y : Int32} {t : Nat} (ht : y = nI t) (ht9 : t < 5) (h1 : ob_p σ x y = 0) (h3 : ls_hc σ j t u = false) : ok_MM l y_OB_cut (Cond.code y_OB_cut b_OB_cut 4 (some .int) :: tt) { frames := 5, cells := 0, slots := 0, locals := 111 } D vwCl (ot cI cL) (ow cI cL ad σ) (ow cI cL ad (se_b (ls_z (u3 (u3 (u3 (u3 σ 5 (u + 4) 0 (if σ 1 0 j < σ 1 0 t then σ 1 0 t else σ 1 0 j)) 3 (u + 4) j 1) 3 (u + 4) t 1) 10 0 0 (nI (u + 1))) r (r + (u + 1))) n r (u + 1))) [.ref (ad 0), .int x, .int y] (some (.int (nI (u + 1)))) := by
  refine ok_startM (cc := b_OB_cut) (own := ROB) (maxL := 4) (ret := (some .int)) (by decide +kernel) rfl rfl (Nat.le_of_ble_eq_true rfl) ?_
  intro p e s m below meth c A F hr hlk hA hP hK hD hS ls hl
  have hl : lv_has ls 4 [(0, .ref (ad 0)), (1, .int x), (2, .int y)] := hl
  have hx := F.1
  have hb := F.2.1
  refine lv_aload_n hx hb d_OB_cut_0 rfl (lv_at hl 0 rfl) ?_
  refine lv_iload_n hx hb d_OB_cut_1 rfl (lv_at hl 1 rfl) ?_
  refine lv_iload_n hx hb d_OB_cut_2 rfl (lv_at hl 2 rfl) ?_
  refine x_OB_isNoPair F (tt2 202 rfl rfl) ⟨Nat.le_of_ble_eq_true rfl, Nat.le_of_ble_eq_true rfl⟩ hK hP hl.1 (Nat.le_of_ble_eq_true rfl) ⟨Nat.zero_le _, Nat.zero_le _⟩ d_OB_cut_3 ?_
  refine lv_if_eq (tgt := 19) hx hb d_OB_cut_6 (by decide) (fun c1 => ?_) (fun c1 => ?_)
  · refine lv_aload_n hx hb d_OB_cut_19 rfl (lv_at hl 0 rfl) ?_
    refine gf_OB_lines F hK hP d_OB_cut_20 ?_
    refine x_Ls_cutCount F (tt2 207 rfl rfl) ⟨Nat.le_of_ble_eq_true rfl, Nat.le_of_ble_eq_true rfl⟩ hK hP hl.1 (Nat.le_of_ble_eq_true rfl) ⟨Nat.zero_le _, Nat.zero_le _⟩ d_OB_cut_23 ?_
    refine lv_iconst (v := 4) hx hb d_OB_cut_26 (by decide) ?_
    refine lv_icmp_lt (tgt := 40) hx hb d_OB_cut_27 (by decide) (fun c2 => ?_) (fun c2 => ?_)
    · refine lv_aload_n hx hb d_OB_cut_40 rfl (lv_at hl 0 rfl) ?_
      refine gf_OB_lines F hK hP d_OB_cut_41 ?_
      refine lv_iload_n hx hb d_OB_cut_44 rfl (lv_at hl 1 rfl) ?_
      refine lv_iload_n hx hb d_OB_cut_45 rfl (lv_at hl 2 rfl) ?_
      refine x_Ls_hasCut (r := r) (u := u) h_r h_u hr4 hu4 (j := j) hj (by omega) (t := t) ht (by omega) F (tt2 212 rfl rfl) ⟨Nat.le_of_ble_eq_true rfl, Nat.le_of_ble_eq_true rfl⟩ hK hP hl.1 (Nat.le_of_ble_eq_true rfl) ⟨Nat.zero_le _, Nat.zero_le _⟩ d_OB_cut_46 ?_
      refine lv_if_eq (tgt := 62) hx hb d_OB_cut_49 (by decide) (fun c3 => ?_) (fun c3 => ?_)
      · refine lv_aload_n hx hb d_OB_cut_62 rfl (lv_at hl 0 rfl) ?_
        refine gf_OB_lines F hK hP d_OB_cut_63 ?_
        refine lv_iload_n hx hb d_OB_cut_66 rfl (lv_at hl 1 rfl) ?_
        refine lv_iload_n hx hb d_OB_cut_67 rfl (lv_at hl 2 rfl) ?_
        refine lv_aload_n hx hb d_OB_cut_68 rfl (lv_at hl 0 rfl) ?_
        refine gf_OB_columns F hK hP d_OB_cut_69 ?_
        refine lv_iload_n hx hb d_OB_cut_72 rfl (lv_at hl 1 rfl) ?_
        refine x_Co_top (j := j) hj (by omega) F (tt1 191 rfl rfl) ⟨Nat.le_of_ble_eq_true rfl, Nat.le_of_ble_eq_true rfl⟩ hK hP hl.1 (Nat.le_of_ble_eq_true rfl) ⟨Nat.zero_le _, Nat.zero_le _⟩ d_OB_cut_73 ?_
        refine lv_aload_n hx hb d_OB_cut_76 rfl (lv_at hl 0 rfl) ?_
        refine gf_OB_columns F hK hP d_OB_cut_77 ?_
        refine lv_iload_n hx hb d_OB_cut_80 rfl (lv_at hl 2 rfl) ?_
        refine x_Co_top (j := t) ht (by omega) F (tt1 191 rfl rfl) ⟨Nat.le_of_ble_eq_true rfl, Nat.le_of_ble_eq_true rfl⟩ hK hP hl.1 (Nat.le_of_ble_eq_true rfl) ⟨Nat.zero_le _, Nat.zero_le _⟩ d_OB_cut_81 ?_
        refine ok_mmax F (List.mem_cons_of_mem _ (tt2 217 rfl rfl)) hl.1 (Nat.le_of_ble_eq_true rfl) (Nat.le_of_ble_eq_true rfl) (Nat.zero_le _) (Nat.zero_le _) d_OB_cut_84 ?_
        refine x_Ls_addCut (r := r) (u := u) h_r h_u hr4 hu4 hu3 (j := j) hj (by omega) (t := t) ht (by omega) F (tt2 218 rfl rfl) ⟨Nat.le_of_ble_eq_true rfl, Nat.le_of_ble_eq_true rfl⟩ hK hP hD hS hA hl.1 (Nat.le_of_ble_eq_true rfl) ⟨Nat.zero_le _, Nat.zero_le _⟩ d_OB_cut_87 (fun H locs hP hD hS => ?_)
        refine lv_istore_n (lv' := [(3, .int (nI (u + 1))), (0, .ref (ad 0)), (1, .int x), (2, .int y)]) hx hb d_OB_cut_90 rfl hl (by decide) rfl (fun ls hl => ?_)
        refine lv_aload_n hx hb d_OB_cut_91 rfl (lv_at hl 1 rfl) ?_
        refine gf_OB_search F hK hP d_OB_cut_92 ?_
        refine x_Se_begin (r := r) (u := (u + 1)) (by simp [ls_z_c, u3_at, nI_1, h_r, h_u, hn]) (by simp [ls_z_c, u3_at, nI_1, h_r, h_u, hn]) (by omega) (by omega) (n := n) (by simp [ls_z_c, u3_at, nI_1, h_r, h_u, hn]) (by omega) F (tt2 96 rfl rfl) ⟨Nat.le_of_ble_eq_true rfl, Nat.le_of_ble_eq_true rfl⟩ hK hP hD hS hA hl.1 (Nat.le_of_ble_eq_true rfl) ⟨Nat.zero_le _, Nat.zero_le _⟩ d_OB_cut_95 (fun H locs hP hD hS => ?_)
        refine lv_iload_n hx hb d_OB_cut_98 rfl (lv_at hl 0 rfl) ?_
        exact ok_iretM F hr hlk hP hD hS (rfl) d_OB_cut_99
      · exact absurd (by rw [h3]; rfl) c3
    · exact absurd (by rw [h_u, show (4 : Int32) = nI 4 from rfl]; exact nI_lt (by omega) (by omega)) c2
  · exact absurd h1 c1
theorem x_OB_cut {σ : oS} {r : Nat} {u : Nat} (h_r : σ 9 0 0 = nI r) (h_u : σ 10 0 0 = nI u) (hr4 : r ≤ 4) (hu4 : u ≤ 4) {n : Nat} (hn : σ 2 0 0 = nI n) (hn9 : n ≤ 5) (hu3 : u < 4) {x : Int32} {j : Nat} (hj : x = nI j) (hj9 : j < 5) {y : Int32} {t : Nat} (ht : y = nI t) (ht9 : t < 5) (h1 : ob_p σ x y = 0) (h3 : ls_hc σ j t u = false) (F : CallFix p m c cc nL s args (cw :: tt) own) (hG : Cond.methodLink own index y_OB_cut ∈ tt) (hR : 5 + 1 ≤ R.frames ∧ 8 + (4 + 11) + 111 ≤ R.locals) (hK : va_K D vwCl (ot cI cL) s) (hP : va_P D vwCl (ow cI cL ad σ) H) (hD : va_D A (ow cI cL ad σ)) (hS : va_S A H0 H locs) (hA : ∀ q, H0.size ≤ q → A q) (hsz : ls.size = nL) (hW : (rest.map fun v => v.category).sum ≤ 8) (hcs : cells ≤ R.cells ∧ slots ≤ R.slots) (hdg : decode cc pc = .ok (.invokevirtual index, 3)) (kk : ∀ (H1 : Heap) (locs1 : List Loc), va_P D vwCl (ow cI cL ad (se_b (ls_z (u3 (u3 (u3 (u3 σ 5 (u + 4) 0 (if σ 1 0 j < σ 1 0 t then σ 1 0 t else σ 1 0 j)) 3 (u + 4) j 1) 3 (u + 4) t 1) 10 0 0 (nI (u + 1))) r (r + (u + 1))) n r (u + 1))) H1 → va_D A (ow cI cL ad (se_b (ls_z (u3 (u3 (u3 (u3 σ 5 (u + 4) 0 (if σ 1 0 j < σ 1 0 t then σ 1 0 t else σ 1 0 j)) 3 (u + 4) j 1) 3 (u + 4) t 1) 10 0 0 (nI (u + 1))) r (r + (u + 1))) n r (u + 1))) → va_S A H0 H1 locs1 → W p l e R s m args below meth c H1 locs1 cells slots Q (F0 m (pc + 3) ls (.int (nI (u + 1)) :: rest))) : W p l e R s m args below meth c H locs cells slots Q (F0 m pc ls (.int y :: .int x :: .ref (ad 0) :: rest)) :=
  ok_VM (As := [.int x, .int y]) F (c_OB_cut σ h_r h_u hr4 hu4 hn hn9 hu3 hj hj9 ht ht9 h1 h3) 2 (tt_V hG i_OB_cut l_OB_cut in9_OB k_OB_cut) rfl ⟨rfl, rfl⟩ (by decide +kernel) hR hK hP hD hS hA (0) 5 rfl rfl ow_0 rfl hsz rfl hW hcs hdg kk
set_option maxHeartbeats 4000000 in
set_option maxRecDepth 100000 in
theorem c_OB_run (σ : oS) {r : Nat} {u : Nat} (h_r : σ 9 0 0 = nI r) (h_u : σ 10 0 0 = nI u) (hr4 : r ≤ 4) (hu4 : u ≤ 4) {n : Nat} (hn : σ 2 0 0 = nI n) (hn9 : n ≤ 5) (hfo : σ 17 0 0 = 0 ∨ σ 17 0 0 = 1) {q : Nat} (hq : σ 15 0 0 = nI q - 1) (hqn : n ≠ 0 → q ≤ n) {x : Int32} {f : Nat} (hf : x = nI f) (hf9 : f < 100001) (h1 : ¬ x < 0) (h2 : x ≤ 100000) : ok_MM l y_OB_run (Cond.code y_OB_run b_OB_run 2 (some .int) :: tt) { frames := 5, cells := 0, slots := 0, locals := 111 } D vwCl (ot cI cL) (ow cI cL ad σ) (ow cI cL ad (se_G σ n r u f)) [.ref (ad 0), .int x] (some (.int (se_r (se_G σ n r u f)))) := by
  refine ok_startM (cc := b_OB_run) (own := ROB) (maxL := 2) (ret := (some .int)) (by decide +kernel) rfl rfl (Nat.le_of_ble_eq_true rfl) ?_
  intro p e s m below meth c A F hr hlk hA hP hK hD hS ls hl
  have hl : lv_has ls 2 [(0, .ref (ad 0)), (1, .int x)] := hl
  have hx := F.1
  have hb := F.2.1
  refine lv_iload_n hx hb d_OB_run_0 rfl (lv_at hl 1 rfl) ?_
  refine lv_if_lt (tgt := 10) hx hb d_OB_run_1 (by decide) (fun c1 => ?_) (fun c1 => ?_)
  · first | exact absurd c1 h1 | exact absurd h2 c1
  · refine lv_iload_n hx hb d_OB_run_4 rfl (lv_at hl 1 rfl) ?_
    refine lv_ldc (v := 100000) hx hb F.2.2.2.1 (F.2.2.2.2 (.constant ROB 138 (100000)) (List.mem_cons_of_mem _ (tt2 230 rfl rfl))) d_OB_run_5 ?_
    refine lv_icmp_le (tgt := 20) hx hb d_OB_run_7 (by decide) (fun c2 => ?_) (fun c2 => ?_)
    · refine lv_aload_n hx hb d_OB_run_20 rfl (lv_at hl 0 rfl) ?_
      refine gf_OB_search F hK hP d_OB_run_21 ?_
      refine lv_iload_n hx hb d_OB_run_24 rfl (lv_at hl 1 rfl) ?_
      refine x_Se_goOn (r := r) (u := u) h_r h_u hr4 hu4 (n := n) hn hn9 hfo (q := q) hq hqn (f := f) hf (by omega) F (tt2 232 rfl rfl) ⟨Nat.le_of_ble_eq_true rfl, Nat.le_of_ble_eq_true rfl⟩ hK hP hD hS hA hl.1 (Nat.le_of_ble_eq_true rfl) ⟨Nat.zero_le _, Nat.zero_le _⟩ d_OB_run_25 (fun H locs hP hD hS => ?_)
      exact ok_iretM F hr hlk hP hD hS (rfl) d_OB_run_28
    · first | exact absurd c2 h1 | exact absurd h2 c2
theorem x_OB_run {σ : oS} {r : Nat} {u : Nat} (h_r : σ 9 0 0 = nI r) (h_u : σ 10 0 0 = nI u) (hr4 : r ≤ 4) (hu4 : u ≤ 4) {n : Nat} (hn : σ 2 0 0 = nI n) (hn9 : n ≤ 5) (hfo : σ 17 0 0 = 0 ∨ σ 17 0 0 = 1) {q : Nat} (hq : σ 15 0 0 = nI q - 1) (hqn : n ≠ 0 → q ≤ n) {x : Int32} {f : Nat} (hf : x = nI f) (hf9 : f < 100001) (h1 : ¬ x < 0) (h2 : x ≤ 100000) (F : CallFix p m c cc nL s args (cw :: tt) own) (hG : Cond.methodLink own index y_OB_run ∈ tt) (hR : 5 + 1 ≤ R.frames ∧ 8 + (2 + 11) + 111 ≤ R.locals) (hK : va_K D vwCl (ot cI cL) s) (hP : va_P D vwCl (ow cI cL ad σ) H) (hD : va_D A (ow cI cL ad σ)) (hS : va_S A H0 H locs) (hA : ∀ q, H0.size ≤ q → A q) (hsz : ls.size = nL) (hW : (rest.map fun v => v.category).sum ≤ 8) (hcs : cells ≤ R.cells ∧ slots ≤ R.slots) (hdg : decode cc pc = .ok (.invokevirtual index, 3)) (kk : ∀ (H1 : Heap) (locs1 : List Loc), va_P D vwCl (ow cI cL ad (se_G σ n r u f)) H1 → va_D A (ow cI cL ad (se_G σ n r u f)) → va_S A H0 H1 locs1 → W p l e R s m args below meth c H1 locs1 cells slots Q (F0 m (pc + 3) ls (.int (se_r (se_G σ n r u f)) :: rest))) : W p l e R s m args below meth c H locs cells slots Q (F0 m pc ls (.int x :: .ref (ad 0) :: rest)) :=
  ok_VM (As := [.int x]) F (c_OB_run σ h_r h_u hr4 hu4 hn hn9 hfo hq hqn hf hf9 h1 h2) 1 (tt_V hG i_OB_run l_OB_run in9_OB k_OB_run) rfl ⟨rfl, rfl⟩ (by decide +kernel) hR hK hP hD hS hA (0) 5 rfl rfl ow_0 rfl hsz rfl hW hcs hdg kk
set_option maxHeartbeats 4000000 in
set_option maxRecDepth 100000 in
theorem c_OB_told (σ : oS) (hfo : σ 17 0 0 = 0 ∨ σ 17 0 0 = 1) {x : Int32} (h1 : x = 0 ∨ x = 1) (h2 : x = 1 ∨ ¬ σ 17 0 0 = 0) : ok_MR l y_OB_told (Cond.code y_OB_told b_OB_told 2 (some .int) :: tt) { frames := 1, cells := 0, slots := 0, locals := 20 } D vwCl (ot cI cL) (ow cI cL ad σ) [.ref (ad 0), .int x] (some (.int (if x = 1 then σ 16 0 0 else σ 18 0 0))) := by
  refine ok_startR (cc := b_OB_told) (own := ROB) (maxL := 2) (ret := (some .int)) (by decide +kernel) rfl rfl (Nat.le_of_ble_eq_true rfl) ?_
  intro p e s m below meth c F hr hlk hP hK ls hl
  have hl : lv_has ls 2 [(0, .ref (ad 0)), (1, .int x)] := hl
  have hx := F.1
  have hb := F.2.1
  refine lv_iload_n hx hb d_OB_told_0 rfl (lv_at hl 1 rfl) ?_
  refine lv_if_eq (tgt := 19) hx hb d_OB_told_1 (by decide) (fun c1 => ?_) (fun c1 => ?_)
  · refine lv_iload_n hx hb d_OB_told_19 rfl (lv_at hl 1 rfl) ?_
    refine lv_iconst (v := 1) hx hb d_OB_told_20 (by decide) ?_
    refine lv_icmp_ne (tgt := 32) hx hb d_OB_told_21 (by decide) (fun c2 => ?_) (fun c2 => ?_)
    · refine lv_aload_n hx hb d_OB_told_32 rfl (lv_at hl 0 rfl) ?_
      refine gf_OB_search F hK hP d_OB_told_33 ?_
      refine x_Se_hasFound hfo F (tt3 45 rfl rfl) ⟨Nat.le_of_ble_eq_true rfl, Nat.le_of_ble_eq_true rfl⟩ hK hP hl.1 (Nat.le_of_ble_eq_true rfl) ⟨Nat.zero_le _, Nat.zero_le _⟩ d_OB_told_36 ?_
      refine lv_if_ne (tgt := 52) hx hb d_OB_told_39 (by decide) (fun c3 => ?_) (fun c3 => ?_)
      · refine lv_aload_n hx hb d_OB_told_52 rfl (lv_at hl 0 rfl) ?_
        refine gf_OB_search F hK hP d_OB_told_53 ?_
        refine x_Se_bestWorth F (tt3 65 rfl rfl) ⟨Nat.le_of_ble_eq_true rfl, Nat.le_of_ble_eq_true rfl⟩ hK hP hl.1 (Nat.le_of_ble_eq_true rfl) ⟨Nat.zero_le _, Nat.zero_le _⟩ d_OB_told_56 ?_
        exact ok_iretR F hr hlk (by rw [if_neg c2]) d_OB_told_59
      · exact absurd h2 (fun q => q.elim c2 (fun k => k c3))
    · refine lv_aload_n hx hb d_OB_told_24 rfl (lv_at hl 0 rfl) ?_
      refine gf_OB_search F hK hP d_OB_told_25 ?_
      refine x_Se_stepsGiven F (tt3 41 rfl rfl) ⟨Nat.le_of_ble_eq_true rfl, Nat.le_of_ble_eq_true rfl⟩ hK hP hl.1 (Nat.le_of_ble_eq_true rfl) ⟨Nat.zero_le _, Nat.zero_le _⟩ d_OB_told_28 ?_
      exact ok_iretR F hr hlk (by rw [if_pos c2]) d_OB_told_31
  · refine lv_iload_n hx hb d_OB_told_4 rfl (lv_at hl 1 rfl) ?_
    refine lv_iconst (v := 1) hx hb d_OB_told_5 (by decide) ?_
    refine lv_icmp_eq (tgt := 19) hx hb d_OB_told_6 (by decide) (fun c4 => ?_) (fun c4 => ?_)
    · refine lv_iload_n hx hb d_OB_told_19 rfl (lv_at hl 1 rfl) ?_
      refine lv_iconst (v := 1) hx hb d_OB_told_20 (by decide) ?_
      refine lv_icmp_ne (tgt := 32) hx hb d_OB_told_21 (by decide) (fun c5 => ?_) (fun c5 => ?_)
      · refine lv_aload_n hx hb d_OB_told_32 rfl (lv_at hl 0 rfl) ?_
        refine gf_OB_search F hK hP d_OB_told_33 ?_
        refine x_Se_hasFound hfo F (tt3 45 rfl rfl) ⟨Nat.le_of_ble_eq_true rfl, Nat.le_of_ble_eq_true rfl⟩ hK hP hl.1 (Nat.le_of_ble_eq_true rfl) ⟨Nat.zero_le _, Nat.zero_le _⟩ d_OB_told_36 ?_
        refine lv_if_ne (tgt := 52) hx hb d_OB_told_39 (by decide) (fun c6 => ?_) (fun c6 => ?_)
        · refine lv_aload_n hx hb d_OB_told_52 rfl (lv_at hl 0 rfl) ?_
          refine gf_OB_search F hK hP d_OB_told_53 ?_
          refine x_Se_bestWorth F (tt3 65 rfl rfl) ⟨Nat.le_of_ble_eq_true rfl, Nat.le_of_ble_eq_true rfl⟩ hK hP hl.1 (Nat.le_of_ble_eq_true rfl) ⟨Nat.zero_le _, Nat.zero_le _⟩ d_OB_told_56 ?_
          exact ok_iretR F hr hlk (by rw [if_neg c5]) d_OB_told_59
        · exact absurd h2 (fun q => q.elim c5 (fun k => k c6))
      · refine lv_aload_n hx hb d_OB_told_24 rfl (lv_at hl 0 rfl) ?_
        refine gf_OB_search F hK hP d_OB_told_25 ?_
        refine x_Se_stepsGiven F (tt3 41 rfl rfl) ⟨Nat.le_of_ble_eq_true rfl, Nat.le_of_ble_eq_true rfl⟩ hK hP hl.1 (Nat.le_of_ble_eq_true rfl) ⟨Nat.zero_le _, Nat.zero_le _⟩ d_OB_told_28 ?_
        exact ok_iretR F hr hlk (by rw [if_pos c5]) d_OB_told_31
    · exact absurd h1 (fun q => q.elim c1 c4)
theorem x_OB_told {σ : oS} (hfo : σ 17 0 0 = 0 ∨ σ 17 0 0 = 1) {x : Int32} (h1 : x = 0 ∨ x = 1) (h2 : x = 1 ∨ ¬ σ 17 0 0 = 0) (F : CallFix p m c cc nL s args (cw :: tt) own) (hG : Cond.methodLink own index y_OB_told ∈ tt) (hR : 1 + 1 ≤ R.frames ∧ 8 + (2 + 11) + 20 ≤ R.locals) (hK : va_K D vwCl (ot cI cL) s) (hP : va_P D vwCl (ow cI cL ad σ) H) (hsz : ls.size = nL) (hW : (rest.map fun v => v.category).sum ≤ 8) (hcs : cells ≤ R.cells ∧ slots ≤ R.slots) (hdg : decode cc pc = .ok (.invokevirtual index, 3)) (kk : W p l e R s m args below meth c H locs cells slots Q (F0 m (pc + 3) ls (.int (if x = 1 then σ 16 0 0 else σ 18 0 0) :: rest))) : W p l e R s m args below meth c H locs cells slots Q (F0 m pc ls (.int x :: .ref (ad 0) :: rest)) :=
  ok_VR (As := [.int x]) F (c_OB_told σ hfo h1 h2) 1 (tt_V hG i_OB_told l_OB_told in9_OB k_OB_told) rfl ⟨rfl, rfl⟩ (by decide +kernel) hR hK hP (0) 5 rfl rfl ow_0 rfl hsz rfl hW hcs hdg kk
set_option maxHeartbeats 4000000 in
set_option maxRecDepth 100000 in
theorem c_OB_value (σ : oS) (hfo : σ 17 0 0 = 0 ∨ σ 17 0 0 = 1) {x : Int32} {j : Nat} (hj : x = nI j) (hj9 : j < 5) (h1 : ob_c σ x = 0) (h2 : ¬ σ 17 0 0 = 0) : ok_MR l y_OB_value (Cond.code y_OB_value b_OB_value 2 (some .int) :: tt) { frames := 2, cells := 0, slots := 0, locals := 41 } D vwCl (ot cI cL) (ow cI cL ad σ) [.ref (ad 0), .int x] (some (.int (σ 12 0 j))) := by
  refine ok_startR (cc := b_OB_value) (own := ROB) (maxL := 2) (ret := (some .int)) (by decide +kernel) rfl rfl (Nat.le_of_ble_eq_true rfl) ?_
  intro p e s m below meth c F hr hlk hP hK ls hl
  have hl : lv_has ls 2 [(0, .ref (ad 0)), (1, .int x)] := hl
  have hx := F.1
  have hb := F.2.1
  refine lv_aload_n hx hb d_OB_value_0 rfl (lv_at hl 0 rfl) ?_
  refine lv_iload_n hx hb d_OB_value_1 rfl (lv_at hl 1 rfl) ?_
  refine x_OB_isNoColumn F (tt2 177 rfl rfl) ⟨Nat.le_of_ble_eq_true rfl, Nat.le_of_ble_eq_true rfl⟩ hK hP hl.1 (Nat.le_of_ble_eq_true rfl) ⟨Nat.zero_le _, Nat.zero_le _⟩ d_OB_value_2 ?_
  refine lv_if_eq (tgt := 18) hx hb d_OB_value_5 (by decide) (fun c1 => ?_) (fun c1 => ?_)
  · refine lv_aload_n hx hb d_OB_value_18 rfl (lv_at hl 0 rfl) ?_
    refine gf_OB_search F hK hP d_OB_value_19 ?_
    refine x_Se_hasFound hfo F (tt3 45 rfl rfl) ⟨Nat.le_of_ble_eq_true rfl, Nat.le_of_ble_eq_true rfl⟩ hK hP hl.1 (Nat.le_of_ble_eq_true rfl) ⟨Nat.zero_le _, Nat.zero_le _⟩ d_OB_value_22 ?_
    refine lv_if_ne (tgt := 38) hx hb d_OB_value_25 (by decide) (fun c2 => ?_) (fun c2 => ?_)
    · refine lv_aload_n hx hb d_OB_value_38 rfl (lv_at hl 0 rfl) ?_
      refine gf_OB_search F hK hP d_OB_value_39 ?_
      refine lv_iload_n hx hb d_OB_value_42 rfl (lv_at hl 1 rfl) ?_
      refine x_Se_bestNumber (j := j) hj (by omega) F (tt3 76 rfl rfl) ⟨Nat.le_of_ble_eq_true rfl, Nat.le_of_ble_eq_true rfl⟩ hK hP hl.1 (Nat.le_of_ble_eq_true rfl) ⟨Nat.zero_le _, Nat.zero_le _⟩ d_OB_value_43 ?_
      exact ok_iretR F hr hlk (rfl) d_OB_value_46
    · exact absurd c2 h2
  · exact absurd h1 c1
theorem x_OB_value {σ : oS} (hfo : σ 17 0 0 = 0 ∨ σ 17 0 0 = 1) {x : Int32} {j : Nat} (hj : x = nI j) (hj9 : j < 5) (h1 : ob_c σ x = 0) (h2 : ¬ σ 17 0 0 = 0) (F : CallFix p m c cc nL s args (cw :: tt) own) (hG : Cond.methodLink own index y_OB_value ∈ tt) (hR : 2 + 1 ≤ R.frames ∧ 8 + (2 + 11) + 41 ≤ R.locals) (hK : va_K D vwCl (ot cI cL) s) (hP : va_P D vwCl (ow cI cL ad σ) H) (hsz : ls.size = nL) (hW : (rest.map fun v => v.category).sum ≤ 8) (hcs : cells ≤ R.cells ∧ slots ≤ R.slots) (hdg : decode cc pc = .ok (.invokevirtual index, 3)) (kk : W p l e R s m args below meth c H locs cells slots Q (F0 m (pc + 3) ls (.int (σ 12 0 j) :: rest))) : W p l e R s m args below meth c H locs cells slots Q (F0 m pc ls (.int x :: .ref (ad 0) :: rest)) :=
  ok_VR (As := [.int x]) F (c_OB_value σ hfo hj hj9 h1 h2) 1 (tt_V hG i_OB_value l_OB_value in9_OB k_OB_value) rfl ⟨rfl, rfl⟩ (by decide +kernel) hR hK hP (0) 5 rfl rfl ow_0 rfl hsz rfl hW hcs hdg kk
set_option maxHeartbeats 4000000 in
set_option maxRecDepth 100000 in
theorem c_OB_multiplier (σ : oS) {r : Nat} {u : Nat} (h_r : σ 9 0 0 = nI r) (h_u : σ 10 0 0 = nI u) (hr4 : r ≤ 4) (hu4 : u ≤ 4) {x : Int32} {k : Nat} (hk : x = nI k) (hk9 : k < 8) {y : Int32} (hk8 : k < r + u) (h1 : ¬ x < 0) (h2 : x < σ 9 0 0 + σ 10 0 0) (h3 : ¬ li_w σ (ls_i r k) y = 0) : ok_MM l y_OB_multiplier (Cond.code y_OB_multiplier b_OB_multiplier 4 none :: tt) { frames := 1, cells := 0, slots := 0, locals := 21 } D vwCl (ot cI cL) (ow cI cL ad σ) (ow cI cL ad (u3 σ 6 (ls_i r k) 0 y)) [.ref (ad 0), .int x, .int y] none := by
  refine ok_startM (cc := b_OB_multiplier) (own := ROB) (maxL := 4) (ret := none) (by decide +kernel) rfl rfl (Nat.le_of_ble_eq_true rfl) ?_
  intro p e s m below meth c A F hr hlk hA hP hK hD hS ls hl
  have hl : lv_has ls 4 [(0, .ref (ad 0)), (1, .int x), (2, .int y)] := hl
  have hx := F.1
  have hb := F.2.1
  refine lv_iload_n hx hb d_OB_multiplier_0 rfl (lv_at hl 1 rfl) ?_
  refine lv_if_lt (tgt := 15) hx hb d_OB_multiplier_1 (by decide) (fun c1 => ?_) (fun c1 => ?_)
  · first | exact absurd c1 h1 | exact absurd h2 c1
  · refine lv_iload_n hx hb d_OB_multiplier_4 rfl (lv_at hl 1 rfl) ?_
    refine lv_aload_n hx hb d_OB_multiplier_5 rfl (lv_at hl 0 rfl) ?_
    refine gf_OB_lines F hK hP d_OB_multiplier_6 ?_
    refine x_Ls_count F (tt1 202 rfl rfl) ⟨Nat.le_of_ble_eq_true rfl, Nat.le_of_ble_eq_true rfl⟩ hK hP hl.1 (Nat.le_of_ble_eq_true rfl) ⟨Nat.zero_le _, Nat.zero_le _⟩ d_OB_multiplier_9 ?_
    refine lv_icmp_lt (tgt := 25) hx hb d_OB_multiplier_12 (by decide) (fun c2 => ?_) (fun c2 => ?_)
    · refine lv_aload_n hx hb d_OB_multiplier_25 rfl (lv_at hl 0 rfl) ?_
      refine gf_OB_lines F hK hP d_OB_multiplier_26 ?_
      refine lv_iload_n hx hb d_OB_multiplier_29 rfl (lv_at hl 1 rfl) ?_
      refine x_Ls_at (r := r) (u := u) h_r h_u hr4 hu4 (k := k) hk (by omega) (by omega) F (tt1 203 rfl rfl) ⟨Nat.le_of_ble_eq_true rfl, Nat.le_of_ble_eq_true rfl⟩ hK hP hl.1 (Nat.le_of_ble_eq_true rfl) ⟨Nat.zero_le _, Nat.zero_le _⟩ d_OB_multiplier_30 ?_
      refine lv_astore_n (lv' := [(3, .ref (ad (4 * ls_i r k + 14))), (0, .ref (ad 0)), (1, .int x), (2, .int y)]) hx hb d_OB_multiplier_33 rfl hl (by decide) rfl (fun ls hl => ?_)
      refine lv_aload_n hx hb d_OB_multiplier_34 rfl (lv_at hl 0 rfl) ?_
      refine lv_iload_n hx hb d_OB_multiplier_35 rfl (lv_at hl 3 rfl) ?_
      refine x_Li_allowsWeight (i := (ls_i r k)) (ls_i_lt hr4 hu4 (by omega)) F (tt3 88 rfl rfl) ⟨Nat.le_of_ble_eq_true rfl, Nat.le_of_ble_eq_true rfl⟩ hK hP hl.1 (Nat.le_of_ble_eq_true rfl) ⟨Nat.zero_le _, Nat.zero_le _⟩ d_OB_multiplier_36 ?_
      refine lv_if_ne (tgt := 52) hx hb d_OB_multiplier_39 (by decide) (fun c3 => ?_) (fun c3 => ?_)
      · refine lv_aload_n hx hb d_OB_multiplier_52 rfl (lv_at hl 0 rfl) ?_
        refine lv_iload_n hx hb d_OB_multiplier_53 rfl (lv_at hl 3 rfl) ?_
        refine x_Li_setWeight (i := (ls_i r k)) (ls_i_lt hr4 hu4 (by omega)) F (tt3 95 rfl rfl) ⟨Nat.le_of_ble_eq_true rfl, Nat.le_of_ble_eq_true rfl⟩ hK hP hD hS hA hl.1 (Nat.le_of_ble_eq_true rfl) ⟨Nat.zero_le _, Nat.zero_le _⟩ d_OB_multiplier_54 (fun H locs hP hD hS => ?_)
        exact ok_vretM F hr hlk hP hD hS d_OB_multiplier_57
      · exact absurd c3 h3
    · first | exact absurd c2 h1 | exact absurd h2 c2
theorem x_OB_multiplier {σ : oS} {r : Nat} {u : Nat} (h_r : σ 9 0 0 = nI r) (h_u : σ 10 0 0 = nI u) (hr4 : r ≤ 4) (hu4 : u ≤ 4) {x : Int32} {k : Nat} (hk : x = nI k) (hk9 : k < 8) {y : Int32} (hk8 : k < r + u) (h1 : ¬ x < 0) (h2 : x < σ 9 0 0 + σ 10 0 0) (h3 : ¬ li_w σ (ls_i r k) y = 0) (F : CallFix p m c cc nL s args (cw :: tt) own) (hG : Cond.methodLink own index y_OB_multiplier ∈ tt) (hR : 1 + 1 ≤ R.frames ∧ 8 + (4 + 11) + 21 ≤ R.locals) (hK : va_K D vwCl (ot cI cL) s) (hP : va_P D vwCl (ow cI cL ad σ) H) (hD : va_D A (ow cI cL ad σ)) (hS : va_S A H0 H locs) (hA : ∀ q, H0.size ≤ q → A q) (hsz : ls.size = nL) (hW : (rest.map fun v => v.category).sum ≤ 8) (hcs : cells ≤ R.cells ∧ slots ≤ R.slots) (hdg : decode cc pc = .ok (.invokevirtual index, 3)) (kk : ∀ (H1 : Heap) (locs1 : List Loc), va_P D vwCl (ow cI cL ad (u3 σ 6 (ls_i r k) 0 y)) H1 → va_D A (ow cI cL ad (u3 σ 6 (ls_i r k) 0 y)) → va_S A H0 H1 locs1 → W p l e R s m args below meth c H1 locs1 cells slots Q (F0 m (pc + 3) ls (rest))) : W p l e R s m args below meth c H locs cells slots Q (F0 m pc ls (.int y :: .int x :: .ref (ad 0) :: rest)) :=
  ok_VM (As := [.int x, .int y]) F (c_OB_multiplier σ h_r h_u hr4 hu4 hk hk9 hk8 h1 h2 h3) 2 (tt_V hG i_OB_multiplier l_OB_multiplier in9_OB k_OB_multiplier) rfl ⟨rfl, rfl⟩ (by decide +kernel) hR hK hP hD hS hA (0) 5 rfl rfl ow_0 rfl hsz rfl hW hcs hdg kk
set_option maxHeartbeats 4000000 in
set_option maxRecDepth 100000 in
theorem c_OB_follow (σ : oS) {x : Int32} {j : Nat} (hj : x = nI j) (hj9 : j < 5) {y : Int32} (h1 : ob_p σ x y = 0) (h2 : σ 20 0 0 < 10) (h3 : fo_b (σ 19 0 j) y = 0) : ok_MM l y_OB_follow (Cond.code y_OB_follow b_OB_follow 3 (some .int) :: tt) { frames := 3, cells := 0, slots := 0, locals := 63 } D vwCl (ot cI cL) (ow cI cL ad σ) (ow cI cL ad (u3 (u3 σ 19 0 j (σ 19 0 j ||| (1 <<< (y &&& 31)))) 20 0 0 (σ 20 0 0 + 1))) [.ref (ad 0), .int x, .int y] (some (.int (σ 20 0 0 + 1))) := by
  refine ok_startM (cc := b_OB_follow) (own := ROB) (maxL := 3) (ret := (some .int)) (by decide +kernel) rfl rfl (Nat.le_of_ble_eq_true rfl) ?_
  intro p e s m below meth c A F hr hlk hA hP hK hD hS ls hl
  have hl : lv_has ls 3 [(0, .ref (ad 0)), (1, .int x), (2, .int y)] := hl
  have hx := F.1
  have hb := F.2.1
  refine lv_aload_n hx hb d_OB_follow_0 rfl (lv_at hl 0 rfl) ?_
  refine lv_iload_n hx hb d_OB_follow_1 rfl (lv_at hl 1 rfl) ?_
  refine lv_iload_n hx hb d_OB_follow_2 rfl (lv_at hl 2 rfl) ?_
  refine x_OB_isNoPair F (tt2 202 rfl rfl) ⟨Nat.le_of_ble_eq_true rfl, Nat.le_of_ble_eq_true rfl⟩ hK hP hl.1 (Nat.le_of_ble_eq_true rfl) ⟨Nat.zero_le _, Nat.zero_le _⟩ d_OB_follow_3 ?_
  refine lv_if_eq (tgt := 19) hx hb d_OB_follow_6 (by decide) (fun c1 => ?_) (fun c1 => ?_)
  · refine lv_aload_n hx hb d_OB_follow_19 rfl (lv_at hl 0 rfl) ?_
    refine gf_OB_follows F hK hP d_OB_follow_20 ?_
    refine x_Fo_count F (tt3 103 rfl rfl) ⟨Nat.le_of_ble_eq_true rfl, Nat.le_of_ble_eq_true rfl⟩ hK hP hl.1 (Nat.le_of_ble_eq_true rfl) ⟨Nat.zero_le _, Nat.zero_le _⟩ d_OB_follow_23 ?_
    refine lv_bipush (v := 10) hx hb d_OB_follow_26 (by decide) ?_
    refine lv_icmp_lt (tgt := 41) hx hb d_OB_follow_28 (by decide) (fun c2 => ?_) (fun c2 => ?_)
    · refine lv_aload_n hx hb d_OB_follow_41 rfl (lv_at hl 0 rfl) ?_
      refine gf_OB_follows F hK hP d_OB_follow_42 ?_
      refine lv_iload_n hx hb d_OB_follow_45 rfl (lv_at hl 1 rfl) ?_
      refine lv_iload_n hx hb d_OB_follow_46 rfl (lv_at hl 2 rfl) ?_
      refine x_Fo_has (j := j) hj (by omega) F (tt3 108 rfl rfl) ⟨Nat.le_of_ble_eq_true rfl, Nat.le_of_ble_eq_true rfl⟩ hK hP hl.1 (Nat.le_of_ble_eq_true rfl) ⟨Nat.zero_le _, Nat.zero_le _⟩ d_OB_follow_47 ?_
      refine lv_if_eq (tgt := 63) hx hb d_OB_follow_50 (by decide) (fun c3 => ?_) (fun c3 => ?_)
      · refine lv_aload_n hx hb d_OB_follow_63 rfl (lv_at hl 0 rfl) ?_
        refine gf_OB_follows F hK hP d_OB_follow_64 ?_
        refine lv_iload_n hx hb d_OB_follow_67 rfl (lv_at hl 1 rfl) ?_
        refine lv_iload_n hx hb d_OB_follow_68 rfl (lv_at hl 2 rfl) ?_
        refine x_Fo_add (j := j) hj (by omega) F (tt3 116 rfl rfl) ⟨Nat.le_of_ble_eq_true rfl, Nat.le_of_ble_eq_true rfl⟩ hK hP hD hS hA hl.1 (Nat.le_of_ble_eq_true rfl) ⟨Nat.zero_le _, Nat.zero_le _⟩ d_OB_follow_69 (fun H locs hP hD hS => ?_)
        exact ok_iretM F hr hlk hP hD hS (rfl) d_OB_follow_72
      · exact absurd h3 c3
    · exact absurd h2 c2
  · exact absurd h1 c1
theorem x_OB_follow {σ : oS} {x : Int32} {j : Nat} (hj : x = nI j) (hj9 : j < 5) {y : Int32} (h1 : ob_p σ x y = 0) (h2 : σ 20 0 0 < 10) (h3 : fo_b (σ 19 0 j) y = 0) (F : CallFix p m c cc nL s args (cw :: tt) own) (hG : Cond.methodLink own index y_OB_follow ∈ tt) (hR : 3 + 1 ≤ R.frames ∧ 8 + (3 + 11) + 63 ≤ R.locals) (hK : va_K D vwCl (ot cI cL) s) (hP : va_P D vwCl (ow cI cL ad σ) H) (hD : va_D A (ow cI cL ad σ)) (hS : va_S A H0 H locs) (hA : ∀ q, H0.size ≤ q → A q) (hsz : ls.size = nL) (hW : (rest.map fun v => v.category).sum ≤ 8) (hcs : cells ≤ R.cells ∧ slots ≤ R.slots) (hdg : decode cc pc = .ok (.invokevirtual index, 3)) (kk : ∀ (H1 : Heap) (locs1 : List Loc), va_P D vwCl (ow cI cL ad (u3 (u3 σ 19 0 j (σ 19 0 j ||| (1 <<< (y &&& 31)))) 20 0 0 (σ 20 0 0 + 1))) H1 → va_D A (ow cI cL ad (u3 (u3 σ 19 0 j (σ 19 0 j ||| (1 <<< (y &&& 31)))) 20 0 0 (σ 20 0 0 + 1))) → va_S A H0 H1 locs1 → W p l e R s m args below meth c H1 locs1 cells slots Q (F0 m (pc + 3) ls (.int (σ 20 0 0 + 1) :: rest))) : W p l e R s m args below meth c H locs cells slots Q (F0 m pc ls (.int y :: .int x :: .ref (ad 0) :: rest)) :=
  ok_VM (As := [.int x, .int y]) F (c_OB_follow σ hj hj9 h1 h2 h3) 2 (tt_V hG i_OB_follow l_OB_follow in9_OB k_OB_follow) rfl ⟨rfl, rfl⟩ (by decide +kernel) hR hK hP hD hS hA (0) 5 rfl rfl ow_0 rfl hsz rfl hW hcs hdg kk
set_option maxHeartbeats 4000000 in
set_option maxRecDepth 100000 in
theorem c_OB_chain (σ : oS) {n : Nat} (hn : σ 2 0 0 = nI n) (hn9 : n ≤ 5) {x : Int32} {k : Nat} (hk : x = nI k) (hk9 : k < 2147483648) (h1 : 0 ≤ x) : ok_MR l y_OB_chain (Cond.code y_OB_chain b_OB_chain 2 (some .int) :: tt) { frames := 8, cells := 0, slots := 0, locals := 208 } D vwCl (ot cI cL) (ow cI cL ad σ) [.ref (ad 0), .int x] (some (.int (if n ≤ k then -1 else fo_a σ (k + 1) 0 ((1 <<< (σ 2 0 0 &&& 31)) - 1) (-1)))) := by
  refine ok_startR (cc := b_OB_chain) (own := ROB) (maxL := 2) (ret := (some .int)) (by decide +kernel) rfl rfl (Nat.le_of_ble_eq_true rfl) ?_
  intro p e s m below meth c F hr hlk hP hK ls hl
  have hl : lv_has ls 2 [(0, .ref (ad 0)), (1, .int x)] := hl
  have hx := F.1
  have hb := F.2.1
  refine lv_iload_n hx hb d_OB_chain_0 rfl (lv_at hl 1 rfl) ?_
  refine lv_if_ge (tgt := 14) hx hb d_OB_chain_1 (by decide) (fun c1 => ?_) (fun c1 => ?_)
  · refine lv_aload_n hx hb d_OB_chain_14 rfl (lv_at hl 0 rfl) ?_
    refine gf_OB_follows F hK hP d_OB_chain_15 ?_
    refine lv_iload_n hx hb d_OB_chain_18 rfl (lv_at hl 1 rfl) ?_
    refine lv_aload_n hx hb d_OB_chain_19 rfl (lv_at hl 0 rfl) ?_
    refine gf_OB_columns F hK hP d_OB_chain_20 ?_
    refine x_Co_count F (tt1 174 rfl rfl) ⟨Nat.le_of_ble_eq_true rfl, Nat.le_of_ble_eq_true rfl⟩ hK hP hl.1 (Nat.le_of_ble_eq_true rfl) ⟨Nat.zero_le _, Nat.zero_le _⟩ d_OB_chain_23 ?_
    refine x_Fo_longestAt (k := k) hk (by omega) (n := n) hn (by omega) F (tt3 128 rfl rfl) ⟨Nat.le_of_ble_eq_true rfl, Nat.le_of_ble_eq_true rfl⟩ hK hP hl.1 (Nat.le_of_ble_eq_true rfl) ⟨Nat.zero_le _, Nat.zero_le _⟩ d_OB_chain_26 ?_
    exact ok_iretR F hr hlk (rfl) d_OB_chain_29
  · exact absurd h1 c1
theorem x_OB_chain {σ : oS} {n : Nat} (hn : σ 2 0 0 = nI n) (hn9 : n ≤ 5) {x : Int32} {k : Nat} (hk : x = nI k) (hk9 : k < 2147483648) (h1 : 0 ≤ x) (F : CallFix p m c cc nL s args (cw :: tt) own) (hG : Cond.methodLink own index y_OB_chain ∈ tt) (hR : 8 + 1 ≤ R.frames ∧ 8 + (2 + 11) + 208 ≤ R.locals) (hK : va_K D vwCl (ot cI cL) s) (hP : va_P D vwCl (ow cI cL ad σ) H) (hsz : ls.size = nL) (hW : (rest.map fun v => v.category).sum ≤ 8) (hcs : cells ≤ R.cells ∧ slots ≤ R.slots) (hdg : decode cc pc = .ok (.invokevirtual index, 3)) (kk : W p l e R s m args below meth c H locs cells slots Q (F0 m (pc + 3) ls (.int (if n ≤ k then -1 else fo_a σ (k + 1) 0 ((1 <<< (σ 2 0 0 &&& 31)) - 1) (-1)) :: rest))) : W p l e R s m args below meth c H locs cells slots Q (F0 m pc ls (.int x :: .ref (ad 0) :: rest)) :=
  ok_VR (As := [.int x]) F (c_OB_chain σ hn hn9 hk hk9 h1) 1 (tt_V hG i_OB_chain l_OB_chain in9_OB k_OB_chain) rfl ⟨rfl, rfl⟩ (by decide +kernel) hR hK hP (0) 5 rfl rfl ow_0 rfl hsz rfl hW hcs hdg kk
end
