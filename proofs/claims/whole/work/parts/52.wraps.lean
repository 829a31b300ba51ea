section
variable {l : Launch} {D : va_G} {cI cL cJ : ClassId} {ad : Nat → Nat} {o : Nat} {fj : Nat → Int64}
abbrev lo (cJ : ClassId) (o : Nat) (f : Nat → Int64) : va_W := [(o, .inl (cJ, 1, .inr (.inl f)))]
abbrev lt3 (cI cL cJ : ClassId) : List (ClassId × FieldType) := [(cI, .int), (cL, .object "OrderBounds$Line"), (cJ, .long)]
set_option maxHeartbeats 4000000 in
set_option maxRecDepth 100000 in
theorem w_column_0 (σ : oS) {r : Nat} {u : Nat} (h_r : σ 9 0 0 = nI r) (h_u : σ 10 0 0 = nI u) (hr4 : r ≤ 4) (hu4 : u ≤ 4) {n : Nat} (hn : σ 2 0 0 = nI n) (hn5 : n < 5) {x : Int32} {y : Int32} (h1 : ¬ x < -1000) (h2 : x ≤ 1000) (h3 : ¬ y < 0) (h4 : y ≤ 20) : ok_MW l y_La_column (Cond.codeWith y_La_column b_La_column 5 (some .int) [((0 : Nat), (10 : Nat), (13 : Nat), (13 : Nat)), ((0 : Nat), (10 : Nat), (17 : Nat), (15 : Nat))] :: tt) { frames := 6, cells := 1, slots := 6, locals := 134 } D vwCl (lt3 cI cL cJ) (lo cJ o fj ++ ow cI cL ad σ) (lo cJ o (vp_updL fj 0 (Int32.toInt64 (nI n))) ++ ow cI cL ad (se_b (u3 (u3 (u3 σ 0 0 n x) 1 0 n y) 2 0 0 (nI (n + 1))) (n + 1) r u)) [.ref (ad 0), .int x, .int y, .ref o] (some (.int 0)) := by
  refine ok_startW (cc := b_La_column) (own := RLa) (maxL := 5) (ret := some .int) (hh := [((0 : Nat), (10 : Nat), (13 : Nat), (13 : Nat)), ((0 : Nat), (10 : Nat), (17 : Nat), (15 : Nat))]) (by decide +kernel) rfl rfl (Nat.le_of_ble_eq_true rfl) ?_
  intro p e s m below meth c A F hr hlk hh hZ hA hP hK hD hS ls hl
  have hl : lv_has ls 5 [(0, .ref (ad 0)), (1, .int x), (2, .int y), (3, .ref o)] := hl
  have hx := F.1
  have hb := F.2.1
  refine lv_aload_n hx hb d_La_column_0 rfl (lv_at hl 3 rfl) ?_
  refine lv_iconst (v := 0) hx hb d_La_column_1 (by decide) ?_
  refine lv_aload_n hx hb d_La_column_2 rfl (lv_at hl 0 rfl) ?_
  refine lv_iload_n hx hb d_La_column_3 rfl (lv_at hl 1 rfl) ?_
  refine lv_iload_n hx hb d_La_column_4 rfl (lv_at hl 2 rfl) ?_
  refine ok_VMF (wr := lo cJ o fj) (As := [.int x, .int y]) (rest := [.int 0, .ref o]) F (c_OB_column σ h_r h_u hr4 hu4 hn hn5 h1 h2 h3 h4) 2 (tt_V (tt2 2 rfl rfl) i_OB_column l_OB_column in9_OB k_OB_column) rfl ⟨rfl, rfl⟩ (by decide +kernel) ⟨Nat.le_of_ble_eq_true rfl, Nat.le_of_ble_eq_true rfl⟩ (hK.sub [0, 1] rfl) hP hD hS hA 0 5 rfl rfl ow_0 rfl hl.1 rfl (Nat.le_of_ble_eq_true rfl) ⟨Nat.zero_le _, Nat.zero_le _⟩ d_La_column_5 (fun H locs hP hD hS => ?_)
  refine lv_i2l hx hb d_La_column_8 rfl ?_
  refine va_last hx hb hK hP hD hS 0 2 rfl rfl (vp_in_nI (n := 0) (by decide) (by decide)) d_La_column_9 (fun H locs hP hD hS => ?_)
  have hP : va_P D vwCl (lo cJ o (vp_updL fj 0 (Int32.toInt64 (nI n))) ++ ow cI cL ad (se_b (u3 (u3 (u3 σ 0 0 n x) 1 0 n y) 2 0 0 (nI (n + 1))) (n + 1) r u)) H := hP
  have hD : va_D A (lo cJ o (vp_updL fj 0 (Int32.toInt64 (nI n))) ++ ow cI cL ad (se_b (u3 (u3 (u3 σ 0 0 n x) 1 0 n y) 2 0 0 (nI (n + 1))) (n + 1) r u)) := hD
  refine lv_goto (tgt := 21) hx hb d_La_column_10 (by decide) ?_
  refine lv_iconst (v := 0) hx hb d_La_column_21 (by decide) ?_
  exact ok_iretW F hr hlk ⟨Nat.le_of_ble_eq_true rfl, Nat.le_of_ble_eq_true rfl⟩ hP hD hS rfl d_La_column_22
set_option maxHeartbeats 4000000 in
set_option maxRecDepth 100000 in
theorem w_column_1 (hfl : l.flags = pinnedFlags ++ [noTraceFlag]) (σ : oS) {x : Int32} {y : Int32} (h0 : ¬ (¬ x < -1000 ∧ x ≤ 1000 ∧ ¬ y < 0 ∧ y ≤ 20)) : ok_MW l y_La_column (Cond.codeWith y_La_column b_La_column 5 (some .int) [((0 : Nat), (10 : Nat), (13 : Nat), (13 : Nat)), ((0 : Nat), (10 : Nat), (17 : Nat), (15 : Nat))] :: tt) { frames := 7, cells := 1, slots := 6, locals := 105 } D vwCl (lt3 cI cL cJ) (lo cJ o fj ++ ow cI cL ad σ) (lo cJ o fj ++ ow cI cL ad σ) [.ref (ad 0), .int x, .int y, .ref o] (some (.int 1)) := by
  refine ok_startW (cc := b_La_column) (own := RLa) (maxL := 5) (ret := some .int) (hh := [((0 : Nat), (10 : Nat), (13 : Nat), (13 : Nat)), ((0 : Nat), (10 : Nat), (17 : Nat), (15 : Nat))]) (by decide +kernel) rfl rfl (Nat.le_of_ble_eq_true rfl) ?_
  intro p e s m below meth c A F hr hlk hh hZ hA hP hK hD hS ls hl
  have hl : lv_has ls 5 [(0, .ref (ad 0)), (1, .int x), (2, .int y), (3, .ref o)] := hl
  have hx := F.1
  have hb := F.2.1
  refine lv_aload_n hx hb d_La_column_0 rfl (lv_at hl 3 rfl) ?_
  refine lv_iconst (v := 0) hx hb d_La_column_1 (by decide) ?_
  refine lv_aload_n hx hb d_La_column_2 rfl (lv_at hl 0 rfl) ?_
  refine lv_iload_n hx hb d_La_column_3 rfl (lv_at hl 1 rfl) ?_
  refine lv_iload_n hx hb d_La_column_4 rfl (lv_at hl 2 rfl) ?_
  refine ok_VT (As := [.int x, .int y]) (rest := [.int 0, .ref o]) (tgt := 13) F (c_OB_column_1 hfl σ h0) 2 (tt_V (tt2 2 rfl rfl) i_OB_column l_OB_column in9_OB k_OB_column) rfl ⟨rfl, rfl⟩ (by decide +kernel) ⟨Nat.le_of_ble_eq_true rfl, Nat.le_of_ble_eq_true rfl⟩ (hK.sub [0, 1] rfl) (ok_right hP) (fun U hU hW9 => hZ.to hW9 (fun a c hc _ => by rw [hU]; exact hc)) 0 5 rfl rfl ow_0 rfl hl.1 rfl (Nat.le_of_ble_eq_true rfl) ⟨Nat.le_refl _, Nat.le_refl _⟩ d_La_column_5 (by rw [hh]; exact ⟨Nat.zero_le _, Nat.lt_of_lt_of_le (Nat.lt_succ_self _) (Nat.le_of_ble_eq_true rfl), (fun z => by cases z), Or.inl ⟨(F.2.2.2.2 _ (List.mem_cons_of_mem _ (tt2 0 rfl rfl))), hZ.2.1 _ (List.mem_of_getElem? (i := 0) rfl), rfl⟩⟩) (fun H1 a h1 h2 => ?_)
  have hP := ok_grow h1 h2 hP
  have hS := ok_growS h1 h2 hS
  refine lv_astore (lv' := [(4, .ref a), (0, .ref (ad 0)), (1, .int x), (2, .int y), (3, .ref o)]) hx hb d_La_column_13 hl (by decide) rfl (fun ls hl => ?_)
  refine lv_iconst (v := 1) hx hb d_La_column_15 (by decide) ?_
  exact ok_iretW F hr hlk ⟨Nat.le_of_ble_eq_true rfl, Nat.le_of_ble_eq_true rfl⟩ hP hD hS rfl d_La_column_16
set_option maxHeartbeats 4000000 in
set_option maxRecDepth 100000 in
theorem w_column_2 (hfl : l.flags = pinnedFlags ++ [noTraceFlag]) (σ : oS) {x : Int32} {y : Int32} (h1 : ¬ x < -1000) (h2 : x ≤ 1000) (h3 : ¬ y < 0) (h4 : y ≤ 20) (h0 : ¬ σ 2 0 0 < 5) : ok_MW l y_La_column (Cond.codeWith y_La_column b_La_column 5 (some .int) [((0 : Nat), (10 : Nat), (13 : Nat), (13 : Nat)), ((0 : Nat), (10 : Nat), (17 : Nat), (15 : Nat))] :: tt) { frames := 7, cells := 1, slots := 6, locals := 105 } D vwCl (lt3 cI cL cJ) (lo cJ o fj ++ ow cI cL ad σ) (lo cJ o fj ++ ow cI cL ad σ) [.ref (ad 0), .int x, .int y, .ref o] (some (.int 2)) := by
  refine ok_startW (cc := b_La_column) (own := RLa) (maxL := 5) (ret := some .int) (hh := [((0 : Nat), (10 : Nat), (13 : Nat), (13 : Nat)), ((0 : Nat), (10 : Nat), (17 : Nat), (15 : Nat))]) (by decide +kernel) rfl rfl (Nat.le_of_ble_eq_true rfl) ?_
  intro p e s m below meth c A F hr hlk hh hZ hA hP hK hD hS ls hl
  have hl : lv_has ls 5 [(0, .ref (ad 0)), (1, .int x), (2, .int y), (3, .ref o)] := hl
  have hx := F.1
  have hb := F.2.1
  refine lv_aload_n hx hb d_La_column_0 rfl (lv_at hl 3 rfl) ?_
  refine lv_iconst (v := 0) hx hb d_La_column_1 (by decide) ?_
  refine lv_aload_n hx hb d_La_column_2 rfl (lv_at hl 0 rfl) ?_
  refine lv_iload_n hx hb d_La_column_3 rfl (lv_at hl 1 rfl) ?_
  refine lv_iload_n hx hb d_La_column_4 rfl (lv_at hl 2 rfl) ?_
  refine ok_VT (As := [.int x, .int y]) (rest := [.int 0, .ref o]) (tgt := 17) F (c_OB_column_2 hfl σ h1 h2 h3 h4 h0) 2 (tt_V (tt2 2 rfl rfl) i_OB_column l_OB_column in9_OB k_OB_column) rfl ⟨rfl, rfl⟩ (by decide +kernel) ⟨Nat.le_of_ble_eq_true rfl, Nat.le_of_ble_eq_true rfl⟩ (hK.sub [0, 1] rfl) (ok_right hP) (fun U hU hW9 => hZ.to hW9 (fun a c hc _ => by rw [hU]; exact hc)) 0 5 rfl rfl ow_0 rfl hl.1 rfl (Nat.le_of_ble_eq_true rfl) ⟨Nat.le_refl _, Nat.le_refl _⟩ d_La_column_5 (by rw [hh]; exact ⟨Nat.zero_le _, Nat.lt_of_lt_of_le (Nat.lt_succ_self _) (Nat.le_of_ble_eq_true rfl), (fun z => by cases z), Or.inr ⟨"java/lang/IllegalArgumentException", (F.2.2.2.2 _ (List.mem_cons_of_mem _ (tt2 0 rfl rfl))), hZ.2.2.1 (_, _) (List.mem_of_getElem? (i := 3) rfl), ⟨Nat.zero_le _, Nat.lt_of_lt_of_le (Nat.lt_succ_self _) (Nat.le_of_ble_eq_true rfl), (fun z => by cases z), Or.inl ⟨(F.2.2.2.2 _ (List.mem_cons_of_mem _ (tt2 1 rfl rfl))), hZ.2.1 _ (List.mem_of_getElem? (i := 1) rfl), rfl⟩⟩⟩⟩) (fun H1 a h1 h2 => ?_)
  have hP := ok_grow h1 h2 hP
  have hS := ok_growS h1 h2 hS
  refine lv_astore (lv' := [(4, .ref a), (0, .ref (ad 0)), (1, .int x), (2, .int y), (3, .ref o)]) hx hb d_La_column_17 hl (by decide) rfl (fun ls hl => ?_)
  refine lv_iconst (v := 2) hx hb d_La_column_19 (by decide) ?_
  exact ok_iretW F hr hlk ⟨Nat.le_of_ble_eq_true rfl, Nat.le_of_ble_eq_true rfl⟩ hP hD hS rfl d_La_column_20
set_option maxHeartbeats 4000000 in
set_option maxRecDepth 100000 in
theorem w_row_0 (σ : oS) {r : Nat} {u : Nat} (h_r : σ 9 0 0 = nI r) (h_u : σ 10 0 0 = nI u) (hr4 : r ≤ 4) (hu4 : u ≤ 4) {n : Nat} (hn : σ 2 0 0 = nI n) (hn9 : n ≤ 5) (hr3 : r < 4) {x : Int32} {y : Int32} (h1 : x = 0 ∨ x = 1) (h2 : ob_v y = 0) : ok_MW l y_La_row (Cond.codeWith y_La_row b_La_row 5 (some .int) [((0 : Nat), (10 : Nat), (13 : Nat), (13 : Nat)), ((0 : Nat), (10 : Nat), (17 : Nat), (15 : Nat))] :: tt) { frames := 6, cells := 1, slots := 6, locals := 134 } D vwCl (lt3 cI cL cJ) (lo cJ o fj ++ ow cI cL ad σ) (lo cJ o (vp_updL fj 0 (Int32.toInt64 (nI r))) ++ ow cI cL ad (se_b (ls_z (u3 (u3 (u3 σ 4 r 0 x) 5 r 0 y) 9 0 0 (nI (r + 1))) (r + 1) (r + 1 + u)) n (r + 1) u)) [.ref (ad 0), .int x, .int y, .ref o] (some (.int 0)) := by
  refine ok_startW (cc := b_La_row) (own := RLa) (maxL := 5) (ret := some .int) (hh := [((0 : Nat), (10 : Nat), (13 : Nat), (13 : Nat)), ((0 : Nat), (10 : Nat), (17 : Nat), (15 : Nat))]) (by decide +kernel) rfl rfl (Nat.le_of_ble_eq_true rfl) ?_
  intro p e s m below meth c A F hr hlk hh hZ hA hP hK hD hS ls hl
  have hl : lv_has ls 5 [(0, .ref (ad 0)), (1, .int x), (2, .int y), (3, .ref o)] := hl
  have hx := F.1
  have hb := F.2.1
  refine lv_aload_n hx hb d_La_row_0 rfl (lv_at hl 3 rfl) ?_
  refine lv_iconst (v := 0) hx hb d_La_row_1 (by decide) ?_
  refine lv_aload_n hx hb d_La_row_2 rfl (lv_at hl 0 rfl) ?_
  refine lv_iload_n hx hb d_La_row_3 rfl (lv_at hl 1 rfl) ?_
  refine lv_iload_n hx hb d_La_row_4 rfl (lv_at hl 2 rfl) ?_
  refine ok_VMF (wr := lo cJ o fj) (As := [.int x, .int y]) (rest := [.int 0, .ref o]) F (c_OB_row σ h_r h_u hr4 hu4 hn hn9 hr3 h1 h2) 2 (tt_V (tt2 115 rfl rfl) i_OB_row l_OB_row in9_OB k_OB_row) rfl ⟨rfl, rfl⟩ (by decide +kernel) ⟨Nat.le_of_ble_eq_true rfl, Nat.le_of_ble_eq_true rfl⟩ (hK.sub [0, 1] rfl) hP hD hS hA 0 5 rfl rfl ow_0 rfl hl.1 rfl (Nat.le_of_ble_eq_true rfl) ⟨Nat.zero_le _, Nat.zero_le _⟩ d_La_row_5 (fun H locs hP hD hS => ?_)
  refine lv_i2l hx hb d_La_row_8 rfl ?_
  refine va_last hx hb hK hP hD hS 0 2 rfl rfl (vp_in_nI (n := 0) (by decide) (by decide)) d_La_row_9 (fun H locs hP hD hS => ?_)
  have hP : va_P D vwCl (lo cJ o (vp_updL fj 0 (Int32.toInt64 (nI r))) ++ ow cI cL ad (se_b (ls_z (u3 (u3 (u3 σ 4 r 0 x) 5 r 0 y) 9 0 0 (nI (r + 1))) (r + 1) (r + 1 + u)) n (r + 1) u)) H := hP
  have hD : va_D A (lo cJ o (vp_updL fj 0 (Int32.toInt64 (nI r))) ++ ow cI cL ad (se_b (ls_z (u3 (u3 (u3 σ 4 r 0 x) 5 r 0 y) 9 0 0 (nI (r + 1))) (r + 1) (r + 1 + u)) n (r + 1) u)) := hD
  refine lv_goto (tgt := 21) hx hb d_La_row_10 (by decide) ?_
  refine lv_iconst (v := 0) hx hb d_La_row_21 (by decide) ?_
  exact ok_iretW F hr hlk ⟨Nat.le_of_ble_eq_true rfl, Nat.le_of_ble_eq_true rfl⟩ hP hD hS rfl d_La_row_22
set_option maxHeartbeats 4000000 in
set_option maxRecDepth 100000 in
theorem w_row_1 (hfl : l.flags = pinnedFlags ++ [noTraceFlag]) (σ : oS) {x : Int32} {y : Int32} (h0 : ¬ ((x = 0 ∨ x = 1) ∧ ob_v y = 0)) : ok_MW l y_La_row (Cond.codeWith y_La_row b_La_row 5 (some .int) [((0 : Nat), (10 : Nat), (13 : Nat), (13 : Nat)), ((0 : Nat), (10 : Nat), (17 : Nat), (15 : Nat))] :: tt) { frames := 7, cells := 1, slots := 6, locals := 105 } D vwCl (lt3 cI cL cJ) (lo cJ o fj ++ ow cI cL ad σ) (lo cJ o fj ++ ow cI cL ad σ) [.ref (ad 0), .int x, .int y, .ref o] (some (.int 1)) := by
  refine ok_startW (cc := b_La_row) (own := RLa) (maxL := 5) (ret := some .int) (hh := [((0 : Nat), (10 : Nat), (13 : Nat), (13 : Nat)), ((0 : Nat), (10 : Nat), (17 : Nat), (15 : Nat))]) (by decide +kernel) rfl rfl (Nat.le_of_ble_eq_true rfl) ?_
  intro p e s m below meth c A F hr hlk hh hZ hA hP hK hD hS ls hl
  have hl : lv_has ls 5 [(0, .ref (ad 0)), (1, .int x), (2, .int y), (3, .ref o)] := hl
  have hx := F.1
  have hb := F.2.1
  refine lv_aload_n hx hb d_La_row_0 rfl (lv_at hl 3 rfl) ?_
  refine lv_iconst (v := 0) hx hb d_La_row_1 (by decide) ?_
  refine lv_aload_n hx hb d_La_row_2 rfl (lv_at hl 0 rfl) ?_
  refine lv_iload_n hx hb d_La_row_3 rfl (lv_at hl 1 rfl) ?_
  refine lv_iload_n hx hb d_La_row_4 rfl (lv_at hl 2 rfl) ?_
  refine ok_VT (As := [.int x, .int y]) (rest := [.int 0, .ref o]) (tgt := 13) F (c_OB_row_1 hfl σ h0) 2 (tt_V (tt2 115 rfl rfl) i_OB_row l_OB_row in9_OB k_OB_row) rfl ⟨rfl, rfl⟩ (by decide +kernel) ⟨Nat.le_of_ble_eq_true rfl, Nat.le_of_ble_eq_true rfl⟩ (hK.sub [0, 1] rfl) (ok_right hP) (fun U hU hW9 => hZ.to hW9 (fun a c hc _ => by rw [hU]; exact hc)) 0 5 rfl rfl ow_0 rfl hl.1 rfl (Nat.le_of_ble_eq_true rfl) ⟨Nat.le_refl _, Nat.le_refl _⟩ d_La_row_5 (by rw [hh]; exact ⟨Nat.zero_le _, Nat.lt_of_lt_of_le (Nat.lt_succ_self _) (Nat.le_of_ble_eq_true rfl), (fun z => by cases z), Or.inl ⟨(F.2.2.2.2 _ (List.mem_cons_of_mem _ (tt2 0 rfl rfl))), hZ.2.1 _ (List.mem_of_getElem? (i := 0) rfl), rfl⟩⟩) (fun H1 a h1 h2 => ?_)
  have hP := ok_grow h1 h2 hP
  have hS := ok_growS h1 h2 hS
  refine lv_astore (lv' := [(4, .ref a), (0, .ref (ad 0)), (1, .int x), (2, .int y), (3, .ref o)]) hx hb d_La_row_13 hl (by decide) rfl (fun ls hl => ?_)
  refine lv_iconst (v := 1) hx hb d_La_row_15 (by decide) ?_
  exact ok_iretW F hr hlk ⟨Nat.le_of_ble_eq_true rfl, Nat.le_of_ble_eq_true rfl⟩ hP hD hS rfl d_La_row_16
set_option maxHeartbeats 4000000 in
set_option maxRecDepth 100000 in
theorem w_row_2 (hfl : l.flags = pinnedFlags ++ [noTraceFlag]) (σ : oS) {x : Int32} {y : Int32} (h1 : x = 0 ∨ x = 1) (h2 : ob_v y = 0) (h0 : ¬ σ 9 0 0 < 4) : ok_MW l y_La_row (Cond.codeWith y_La_row b_La_row 5 (some .int) [((0 : Nat), (10 : Nat), (13 : Nat), (13 : Nat)), ((0 : Nat), (10 : Nat), (17 : Nat), (15 : Nat))] :: tt) { frames := 7, cells := 1, slots := 6, locals := 105 } D vwCl (lt3 cI cL cJ) (lo cJ o fj ++ ow cI cL ad σ) (lo cJ o fj ++ ow cI cL ad σ) [.ref (ad 0), .int x, .int y, .ref o] (some (.int 2)) := by
  refine ok_startW (cc := b_La_row) (own := RLa) (maxL := 5) (ret := some .int) (hh := [((0 : Nat), (10 : Nat), (13 : Nat), (13 : Nat)), ((0 : Nat), (10 : Nat), (17 : Nat), (15 : Nat))]) (by decide +kernel) rfl rfl (Nat.le_of_ble_eq_true rfl) ?_
  intro p e s m below meth c A F hr hlk hh hZ hA hP hK hD hS ls hl
  have hl : lv_has ls 5 [(0, .ref (ad 0)), (1, .int x), (2, .int y), (3, .ref o)] := hl
  have hx := F.1
  have hb := F.2.1
  refine lv_aload_n hx hb d_La_row_0 rfl (lv_at hl 3 rfl) ?_
  refine lv_iconst (v := 0) hx hb d_La_row_1 (by decide) ?_
  refine lv_aload_n hx hb d_La_row_2 rfl (lv_at hl 0 rfl) ?_
  refine lv_iload_n hx hb d_La_row_3 rfl (lv_at hl 1 rfl) ?_
  refine lv_iload_n hx hb d_La_row_4 rfl (lv_at hl 2 rfl) ?_
  refine ok_VT (As := [.int x, .int y]) (rest := [.int 0, .ref o]) (tgt := 17) F (c_OB_row_2 hfl σ h1 h2 h0) 2 (tt_V (tt2 115 rfl rfl) i_OB_row l_OB_row in9_OB k_OB_row) rfl ⟨rfl, rfl⟩ (by decide +kernel) ⟨Nat.le_of_ble_eq_true rfl, Nat.le_of_ble_eq_true rfl⟩ (hK.sub [0, 1] rfl) (ok_right hP) (fun U hU hW9 => hZ.to hW9 (fun a c hc _ => by rw [hU]; exact hc)) 0 5 rfl rfl ow_0 rfl hl.1 rfl (Nat.le_of_ble_eq_true rfl) ⟨Nat.le_refl _, Nat.le_refl _⟩ d_La_row_5 (by rw [hh]; exact ⟨Nat.zero_le _, Nat.lt_of_lt_of_le (Nat.lt_succ_self _) (Nat.le_of_ble_eq_true rfl), (fun z => by cases z), Or.inr ⟨"java/lang/IllegalArgumentException", (F.2.2.2.2 _ (List.mem_cons_of_mem _ (tt2 0 rfl rfl))), hZ.2.2.1 (_, _) (List.mem_of_getElem? (i := 3) rfl), ⟨Nat.zero_le _, Nat.lt_of_lt_of_le (Nat.lt_succ_self _) (Nat.le_of_ble_eq_true rfl), (fun z => by cases z), Or.inl ⟨(F.2.2.2.2 _ (List.mem_cons_of_mem _ (tt2 1 rfl rfl))), hZ.2.1 _ (List.mem_of_getElem? (i := 1) rfl), rfl⟩⟩⟩⟩) (fun H1 a h1 h2 => ?_)
  have hP := ok_grow h1 h2 hP
  have hS := ok_growS h1 h2 hS
  refine lv_astore (lv' := [(4, .ref a), (0, .ref (ad 0)), (1, .int x), (2, .int y), (3, .ref o)]) hx hb d_La_row_17 hl (by decide) rfl (fun ls hl => ?_)
  refine lv_iconst (v := 2) hx hb d_La_row_19 (by decide) ?_
  exact ok_iretW F hr hlk ⟨Nat.le_of_ble_eq_true rfl, Nat.le_of_ble_eq_true rfl⟩ hP hD hS rfl d_La_row_20
set_option maxHeartbeats 4000000 in
set_option maxRecDepth 100000 in
theorem w_factor_0 (σ : oS) {r : Nat} {u : Nat} (h_r : σ 9 0 0 = nI r) (h_u : σ 10 0 0 = nI u) (hr4 : r ≤ 4) (hu4 : u ≤ 4) {n : Nat} (hn : σ 2 0 0 = nI n) (hn9 : n ≤ 5) {x : Int32} {k : Nat} (hk : x = nI k) (hk9 : k < 4) {y : Int32} {j : Nat} (hj : y = nI j) (hj9 : j < 5) {v : Int32} (hkr : k < r) (h1 : ob_r σ x = 0) (h2 : ob_c σ y = 0) (h3 : ¬ v < -10) (h4 : v ≤ 10) : ok_MW l y_La_factor (Cond.codeWith y_La_factor b_La_factor 5 (some .int) [((0 : Nat), (7 : Nat), (10 : Nat), (24 : Nat)), ((0 : Nat), (7 : Nat), (14 : Nat), (13 : Nat))] :: tt) { frames := 6, cells := 1, slots := 6, locals := 134 } D vwCl (lt3 cI cL cJ) (lo cJ o fj ++ ow cI cL ad σ) (lo cJ o fj ++ ow cI cL ad (se_b (u3 σ 3 (ls_i r k) j v) n r u)) [.ref (ad 0), .int x, .int y, .int v] (some (.int 0)) := by
  refine ok_startW (cc := b_La_factor) (own := RLa) (maxL := 5) (ret := some .int) (hh := [((0 : Nat), (7 : Nat), (10 : Nat), (24 : Nat)), ((0 : Nat), (7 : Nat), (14 : Nat), (13 : Nat))]) (by decide +kernel) rfl rfl (Nat.le_of_ble_eq_true rfl) ?_
  intro p e s m below meth c A F hr hlk hh hZ hA hP hK hD hS ls hl
  have hl : lv_has ls 5 [(0, .ref (ad 0)), (1, .int x), (2, .int y), (3, .int v)] := hl
  have hx := F.1
  have hb := F.2.1
  refine lv_aload_n hx hb d_La_factor_0 rfl (lv_at hl 0 rfl) ?_
  refine lv_iload_n hx hb d_La_factor_1 rfl (lv_at hl 1 rfl) ?_
  refine lv_iload_n hx hb d_La_factor_2 rfl (lv_at hl 2 rfl) ?_
  refine lv_iload_n hx hb d_La_factor_3 rfl (lv_at hl 3 rfl) ?_
  refine ok_VMF (wr := lo cJ o fj) (As := [.int x, .int y, .int v]) (rest := []) F (c_OB_factor σ h_r h_u hr4 hu4 hn hn9 hk hk9 hj hj9 hkr h1 h2 h3 h4) 3 (tt_V (tt2 153 rfl rfl) i_OB_factor l_OB_factor in9_OB k_OB_factor) rfl ⟨rfl, rfl⟩ (by decide +kernel) ⟨Nat.le_of_ble_eq_true rfl, Nat.le_of_ble_eq_true rfl⟩ (hK.sub [0, 1] rfl) hP hD hS hA 0 5 rfl rfl ow_0 rfl hl.1 rfl (Nat.le_of_ble_eq_true rfl) ⟨Nat.zero_le _, Nat.zero_le _⟩ d_La_factor_4 (fun H locs hP hD hS => ?_)
  refine lv_goto (tgt := 18) hx hb d_La_factor_7 (by decide) ?_
  refine lv_iconst (v := 0) hx hb d_La_factor_18 (by decide) ?_
  exact ok_iretW F hr hlk ⟨Nat.le_of_ble_eq_true rfl, Nat.le_of_ble_eq_true rfl⟩ hP hD hS rfl d_La_factor_19
set_option maxHeartbeats 4000000 in
set_option maxRecDepth 100000 in
theorem w_factor_1 (hfl : l.flags = pinnedFlags ++ [noTraceFlag]) (σ : oS) {x : Int32} {y : Int32} {v : Int32} (h0 : ¬ (ob_r σ x = 0 ∧ ob_c σ y = 0)) : ok_MW l y_La_factor (Cond.codeWith y_La_factor b_La_factor 5 (some .int) [((0 : Nat), (7 : Nat), (10 : Nat), (24 : Nat)), ((0 : Nat), (7 : Nat), (14 : Nat), (13 : Nat))] :: tt) { frames := 7, cells := 1, slots := 6, locals := 105 } D vwCl (lt3 cI cL cJ) (lo cJ o fj ++ ow cI cL ad σ) (lo cJ o fj ++ ow cI cL ad σ) [.ref (ad 0), .int x, .int y, .int v] (some (.int 1)) := by
  refine ok_startW (cc := b_La_factor) (own := RLa) (maxL := 5) (ret := some .int) (hh := [((0 : Nat), (7 : Nat), (10 : Nat), (24 : Nat)), ((0 : Nat), (7 : Nat), (14 : Nat), (13 : Nat))]) (by decide +kernel) rfl rfl (Nat.le_of_ble_eq_true rfl) ?_
  intro p e s m below meth c A F hr hlk hh hZ hA hP hK hD hS ls hl
  have hl : lv_has ls 5 [(0, .ref (ad 0)), (1, .int x), (2, .int y), (3, .int v)] := hl
  have hx := F.1
  have hb := F.2.1
  refine lv_aload_n hx hb d_La_factor_0 rfl (lv_at hl 0 rfl) ?_
  refine lv_iload_n hx hb d_La_factor_1 rfl (lv_at hl 1 rfl) ?_
  refine lv_iload_n hx hb d_La_factor_2 rfl (lv_at hl 2 rfl) ?_
  refine lv_iload_n hx hb d_La_factor_3 rfl (lv_at hl 3 rfl) ?_
  refine ok_VT (As := [.int x, .int y, .int v]) (rest := []) (tgt := 10) F (c_OB_factor_1 hfl σ h0) 3 (tt_V (tt2 153 rfl rfl) i_OB_factor l_OB_factor in9_OB k_OB_factor) rfl ⟨rfl, rfl⟩ (by decide +kernel) ⟨Nat.le_of_ble_eq_true rfl, Nat.le_of_ble_eq_true rfl⟩ (hK.sub [0, 1] rfl) (ok_right hP) (fun U hU hW9 => hZ.to hW9 (fun a c hc _ => by rw [hU]; exact hc)) 0 5 rfl rfl ow_0 rfl hl.1 rfl (Nat.le_of_ble_eq_true rfl) ⟨Nat.le_refl _, Nat.le_refl _⟩ d_La_factor_4 (by rw [hh]; exact ⟨Nat.zero_le _, Nat.lt_of_lt_of_le (Nat.lt_succ_self _) (Nat.le_of_ble_eq_true rfl), (fun z => by cases z), Or.inl ⟨(F.2.2.2.2 _ (List.mem_cons_of_mem _ (tt2 152 rfl rfl))), hZ.2.1 _ (List.mem_of_getElem? (i := 2) rfl), rfl⟩⟩) (fun H1 a h1 h2 => ?_)
  have hP := ok_grow h1 h2 hP
  have hS := ok_growS h1 h2 hS
  refine lv_astore (lv' := [(4, .ref a), (0, .ref (ad 0)), (1, .int x), (2, .int y), (3, .int v)]) hx hb d_La_factor_10 hl (by decide) rfl (fun ls hl => ?_)
  refine lv_iconst (v := 1) hx hb d_La_factor_12 (by decide) ?_
  exact ok_iretW F hr hlk ⟨Nat.le_of_ble_eq_true rfl, Nat.le_of_ble_eq_true rfl⟩ hP hD hS rfl d_La_factor_13
set_option maxHeartbeats 4000000 in
set_option maxRecDepth 100000 in
theorem w_factor_2 (hfl : l.flags = pinnedFlags ++ [noTraceFlag]) (σ : oS) {x : Int32} {y : Int32} {v : Int32} (h1 : ob_r σ x = 0) (h2 : ob_c σ y = 0) (h0 : ¬ (¬ v < -10 ∧ v ≤ 10)) : ok_MW l y_La_factor (Cond.codeWith y_La_factor b_La_factor 5 (some .int) [((0 : Nat), (7 : Nat), (10 : Nat), (24 : Nat)), ((0 : Nat), (7 : Nat), (14 : Nat), (13 : Nat))] :: tt) { frames := 7, cells := 1, slots := 6, locals := 105 } D vwCl (lt3 cI cL cJ) (lo cJ o fj ++ ow cI cL ad σ) (lo cJ o fj ++ ow cI cL ad σ) [.ref (ad 0), .int x, .int y, .int v] (some (.int 2)) := by
  refine ok_startW (cc := b_La_factor) (own := RLa) (maxL := 5) (ret := some .int) (hh := [((0 : Nat), (7 : Nat), (10 : Nat), (24 : Nat)), ((0 : Nat), (7 : Nat), (14 : Nat), (13 : Nat))]) (by decide +kernel) rfl rfl (Nat.le_of_ble_eq_true rfl) ?_
  intro p e s m below meth c A F hr hlk hh hZ hA hP hK hD hS ls hl
  have hl : lv_has ls 5 [(0, .ref (ad 0)), (1, .int x), (2, .int y), (3, .int v)] := hl
  have hx := F.1
  have hb := F.2.1
  refine lv_aload_n hx hb d_La_factor_0 rfl (lv_at hl 0 rfl) ?_
  refine lv_iload_n hx hb d_La_factor_1 rfl (lv_at hl 1 rfl) ?_
  refine lv_iload_n hx hb d_La_factor_2 rfl (lv_at hl 2 rfl) ?_
  refine lv_iload_n hx hb d_La_factor_3 rfl (lv_at hl 3 rfl) ?_
  refine ok_VT (As := [.int x, .int y, .int v]) (rest := []) (tgt := 14) F (c_OB_factor_2 hfl σ h1 h2 h0) 3 (tt_V (tt2 153 rfl rfl) i_OB_factor l_OB_factor in9_OB k_OB_factor) rfl ⟨rfl, rfl⟩ (by decide +kernel) ⟨Nat.le_of_ble_eq_true rfl, Nat.le_of_ble_eq_true rfl⟩ (hK.sub [0, 1] rfl) (ok_right hP) (fun U hU hW9 => hZ.to hW9 (fun a c hc _ => by rw [hU]; exact hc)) 0 5 rfl rfl ow_0 rfl hl.1 rfl (Nat.le_of_ble_eq_true rfl) ⟨Nat.le_refl _, Nat.le_refl _⟩ d_La_factor_4 (by rw [hh]; exact ⟨Nat.zero_le _, Nat.lt_of_lt_of_le (Nat.lt_succ_self _) (Nat.le_of_ble_eq_true rfl), (fun z => by cases z), Or.inr ⟨"java/lang/IndexOutOfBoundsException", (F.2.2.2.2 _ (List.mem_cons_of_mem _ (tt2 152 rfl rfl))), hZ.2.2.1 (_, _) (List.mem_of_getElem? (i := 1) rfl), ⟨Nat.zero_le _, Nat.lt_of_lt_of_le (Nat.lt_succ_self _) (Nat.le_of_ble_eq_true rfl), (fun z => by cases z), Or.inl ⟨(F.2.2.2.2 _ (List.mem_cons_of_mem _ (tt2 0 rfl rfl))), hZ.2.1 _ (List.mem_of_getElem? (i := 0) rfl), rfl⟩⟩⟩⟩) (fun H1 a h1 h2 => ?_)
  have hP := ok_grow h1 h2 hP
  have hS := ok_growS h1 h2 hS
  refine lv_astore (lv' := [(4, .ref a), (0, .ref (ad 0)), (1, .int x), (2, .int y), (3, .int v)]) hx hb d_La_factor_14 hl (by decide) rfl (fun ls hl => ?_)
  refine lv_iconst (v := 2) hx hb d_La_factor_16 (by decide) ?_
  exact ok_iretW F hr hlk ⟨Nat.le_of_ble_eq_true rfl, Nat.le_of_ble_eq_true rfl⟩ hP hD hS rfl d_La_factor_17
set_option maxHeartbeats 4000000 in
set_option maxRecDepth 100000 in
theorem w_right_0 (σ : oS) {r : Nat} {u : Nat} (h_r : σ 9 0 0 = nI r) (h_u : σ 10 0 0 = nI u) (hr4 : r ≤ 4) (hu4 : u ≤ 4) {n : Nat} (hn : σ 2 0 0 = nI n) (hn9 : n ≤ 5) {x : Int32} {k : Nat} (hk : x = nI k) (hk9 : k < 4) {y : Int32} (hkr : k < r) (h1 : ob_r σ x = 0) (h2 : ob_v y = 0) : ok_MW l y_La_right (Cond.codeWith y_La_right b_La_right 4 (some .int) [((0 : Nat), (6 : Nat), (9 : Nat), (24 : Nat)), ((0 : Nat), (6 : Nat), (12 : Nat), (13 : Nat))] :: tt) { frames := 6, cells := 1, slots := 6, locals := 133 } D vwCl (lt3 cI cL cJ) (lo cJ o fj ++ ow cI cL ad σ) (lo cJ o fj ++ ow cI cL ad (se_b (u3 σ 5 (ls_i r k) 0 y) n r u)) [.ref (ad 0), .int x, .int y] (some (.int 0)) := by
  refine ok_startW (cc := b_La_right) (own := RLa) (maxL := 4) (ret := some .int) (hh := [((0 : Nat), (6 : Nat), (9 : Nat), (24 : Nat)), ((0 : Nat), (6 : Nat), (12 : Nat), (13 : Nat))]) (by decide +kernel) rfl rfl (Nat.le_of_ble_eq_true rfl) ?_
  intro p e s m below meth c A F hr hlk hh hZ hA hP hK hD hS ls hl
  have hl : lv_has ls 4 [(0, .ref (ad 0)), (1, .int x), (2, .int y)] := hl
  have hx := F.1
  have hb := F.2.1
  refine lv_aload_n hx hb d_La_right_0 rfl (lv_at hl 0 rfl) ?_
  refine lv_iload_n hx hb d_La_right_1 rfl (lv_at hl 1 rfl) ?_
  refine lv_iload_n hx hb d_La_right_2 rfl (lv_at hl 2 rfl) ?_
  refine ok_VMF (wr := lo cJ o fj) (As := [.int x, .int y]) (rest := []) F (c_OB_right σ h_r h_u hr4 hu4 hn hn9 hk hk9 hkr h1 h2) 2 (tt_V (tt2 190 rfl rfl) i_OB_right l_OB_right in9_OB k_OB_right) rfl ⟨rfl, rfl⟩ (by decide +kernel) ⟨Nat.le_of_ble_eq_true rfl, Nat.le_of_ble_eq_true rfl⟩ (hK.sub [0, 1] rfl) hP hD hS hA 0 5 rfl rfl ow_0 rfl hl.1 rfl (Nat.le_of_ble_eq_true rfl) ⟨Nat.zero_le _, Nat.zero_le _⟩ d_La_right_3 (fun H locs hP hD hS => ?_)
  refine lv_goto (tgt := 15) hx hb d_La_right_6 (by decide) ?_
  refine lv_iconst (v := 0) hx hb d_La_right_15 (by decide) ?_
  exact ok_iretW F hr hlk ⟨Nat.le_of_ble_eq_true rfl, Nat.le_of_ble_eq_true rfl⟩ hP hD hS rfl d_La_right_16
set_option maxHeartbeats 4000000 in
set_option maxRecDepth 100000 in
theorem w_right_1 (hfl : l.flags = pinnedFlags ++ [noTraceFlag]) (σ : oS) {x : Int32} {y : Int32} (h0 : ¬ ob_r σ x = 0) : ok_MW l y_La_right (Cond.codeWith y_La_right b_La_right 4 (some .int) [((0 : Nat), (6 : Nat), (9 : Nat), (24 : Nat)), ((0 : Nat), (6 : Nat), (12 : Nat), (13 : Nat))] :: tt) { frames := 7, cells := 1, slots := 6, locals := 104 } D vwCl (lt3 cI cL cJ) (lo cJ o fj ++ ow cI cL ad σ) (lo cJ o fj ++ ow cI cL ad σ) [.ref (ad 0), .int x, .int y] (some (.int 1)) := by
  refine ok_startW (cc := b_La_right) (own := RLa) (maxL := 4) (ret := some .int) (hh := [((0 : Nat), (6 : Nat), (9 : Nat), (24 : Nat)), ((0 : Nat), (6 : Nat), (12 : Nat), (13 : Nat))]) (by decide +kernel) rfl rfl (Nat.le_of_ble_eq_true rfl) ?_
  intro p e s m below meth c A F hr hlk hh hZ hA hP hK hD hS ls hl
  have hl : lv_has ls 4 [(0, .ref (ad 0)), (1, .int x), (2, .int y)] := hl
  have hx := F.1
  have hb := F.2.1
  refine lv_aload_n hx hb d_La_right_0 rfl (lv_at hl 0 rfl) ?_
  refine lv_iload_n hx hb d_La_right_1 rfl (lv_at hl 1 rfl) ?_
  refine lv_iload_n hx hb d_La_right_2 rfl (lv_at hl 2 rfl) ?_
  refine ok_VT (As := [.int x, .int y]) (rest := []) (tgt := 9) F (c_OB_right_1 hfl σ h0) 2 (tt_V (tt2 190 rfl rfl) i_OB_right l_OB_right in9_OB k_OB_right) rfl ⟨rfl, rfl⟩ (by decide +kernel) ⟨Nat.le_of_ble_eq_true rfl, Nat.le_of_ble_eq_true rfl⟩ (hK.sub [0, 1] rfl) (ok_right hP) (fun U hU hW9 => hZ.to hW9 (fun a c hc _ => by rw [hU]; exact hc)) 0 5 rfl rfl ow_0 rfl hl.1 rfl (Nat.le_of_ble_eq_true rfl) ⟨Nat.le_refl _, Nat.le_refl _⟩ d_La_right_3 (by rw [hh]; exact ⟨Nat.zero_le _, Nat.lt_of_lt_of_le (Nat.lt_succ_self _) (Nat.le_of_ble_eq_true rfl), (fun z => by cases z), Or.inl ⟨(F.2.2.2.2 _ (List.mem_cons_of_mem _ (tt2 152 rfl rfl))), hZ.2.1 _ (List.mem_of_getElem? (i := 2) rfl), rfl⟩⟩) (fun H1 a h1 h2 => ?_)
  have hP := ok_grow h1 h2 hP
  have hS := ok_growS h1 h2 hS
  refine lv_astore_n (lv' := [(3, .ref a), (0, .ref (ad 0)), (1, .int x), (2, .int y)]) hx hb d_La_right_9 rfl hl (by decide) rfl (fun ls hl => ?_)
  refine lv_iconst (v := 1) hx hb d_La_right_10 (by decide) ?_
  exact ok_iretW F hr hlk ⟨Nat.le_of_ble_eq_true rfl, Nat.le_of_ble_eq_true rfl⟩ hP hD hS rfl d_La_right_11
set_option maxHeartbeats 4000000 in
set_option maxRecDepth 100000 in
theorem w_right_2 (hfl : l.flags = pinnedFlags ++ [noTraceFlag]) (σ : oS) {x : Int32} {y : Int32} (h1 : ob_r σ x = 0) (h0 : ¬ ob_v y = 0) : ok_MW l y_La_right (Cond.codeWith y_La_right b_La_right 4 (some .int) [((0 : Nat), (6 : Nat), (9 : Nat), (24 : Nat)), ((0 : Nat), (6 : Nat), (12 : Nat), (13 : Nat))] :: tt) { frames := 7, cells := 1, slots := 6, locals := 104 } D vwCl (lt3 cI cL cJ) (lo cJ o fj ++ ow cI cL ad σ) (lo cJ o fj ++ ow cI cL ad σ) [.ref (ad 0), .int x, .int y] (some (.int 2)) := by
  refine ok_startW (cc := b_La_right) (own := RLa) (maxL := 4) (ret := some .int) (hh := [((0 : Nat), (6 : Nat), (9 : Nat), (24 : Nat)), ((0 : Nat), (6 : Nat), (12 : Nat), (13 : Nat))]) (by decide +kernel) rfl rfl (Nat.le_of_ble_eq_true rfl) ?_
  intro p e s m below meth c A F hr hlk hh hZ hA hP hK hD hS ls hl
  have hl : lv_has ls 4 [(0, .ref (ad 0)), (1, .int x), (2, .int y)] := hl
  have hx := F.1
  have hb := F.2.1
  refine lv_aload_n hx hb d_La_right_0 rfl (lv_at hl 0 rfl) ?_
  refine lv_iload_n hx hb d_La_right_1 rfl (lv_at hl 1 rfl) ?_
  refine lv_iload_n hx hb d_La_right_2 rfl (lv_at hl 2 rfl) ?_
  refine ok_VT (As := [.int x, .int y]) (rest := []) (tgt := 12) F (c_OB_right_2 hfl σ h1 h0) 2 (tt_V (tt2 190 rfl rfl) i_OB_right l_OB_right in9_OB k_OB_right) rfl ⟨rfl, rfl⟩ (by decide +kernel) ⟨Nat.le_of_ble_eq_true rfl, Nat.le_of_ble_eq_true rfl⟩ (hK.sub [0, 1] rfl) (ok_right hP) (fun U hU hW9 => hZ.to hW9 (fun a c hc _ => by rw [hU]; exact hc)) 0 5 rfl rfl ow_0 rfl hl.1 rfl (Nat.le_of_ble_eq_true rfl) ⟨Nat.le_refl _, Nat.le_refl _⟩ d_La_right_3 (by rw [hh]; exact ⟨Nat.zero_le _, Nat.lt_of_lt_of_le (Nat.lt_succ_self _) (Nat.le_of_ble_eq_true rfl), (fun z => by cases z), Or.inr ⟨"java/lang/IndexOutOfBoundsException", (F.2.2.2.2 _ (List.mem_cons_of_mem _ (tt2 152 rfl rfl))), hZ.2.2.1 (_, _) (List.mem_of_getElem? (i := 1) rfl), ⟨Nat.zero_le _, Nat.lt_of_lt_of_le (Nat.lt_succ_self _) (Nat.le_of_ble_eq_true rfl), (fun z => by cases z), Or.inl ⟨(F.2.2.2.2 _ (List.mem_cons_of_mem _ (tt2 0 rfl rfl))), hZ.2.1 _ (List.mem_of_getElem? (i := 0) rfl), rfl⟩⟩⟩⟩) (fun H1 a h1 h2 => ?_)
  have hP := ok_grow h1 h2 hP
  have hS := ok_growS h1 h2 hS
  refine lv_astore_n (lv' := [(3, .ref a), (0, .ref (ad 0)), (1, .int x), (2, .int y)]) hx hb d_La_right_12 rfl hl (by decide) rfl (fun ls hl => ?_)
  refine lv_iconst (v := 2) hx hb d_La_right_13 (by decide) ?_
  exact ok_iretW F hr hlk ⟨Nat.le_of_ble_eq_true rfl, Nat.le_of_ble_eq_true rfl⟩ hP hD hS rfl d_La_right_14
set_option maxHeartbeats 4000000 in
set_option maxRecDepth 100000 in
theorem w_cut_0 (σ : oS) {r : Nat} {u : Nat} (h_r : σ 9 0 0 = nI r) (h_u : σ 10 0 0 = nI u) (hr4 : r ≤ 4) (hu4 : u ≤ 4) {n : Nat} (hn : σ 2 0 0 = nI n) (hn9 : n ≤ 5) (hu3 : u < 4) {x : Int32} {j : Nat} (hj : x = nI j) (hj9 : j < 5) {y : Int32} {t : Nat} (ht : y = nI t) (ht9 : t < 5) (h1 : ob_p σ x y = 0) (h3 : ls_hc σ j t u = false) : ok_MW l y_La_cut (Cond.codeWith y_La_cut b_La_cut 5 (some .int) [((0 : Nat), (10 : Nat), (13 : Nat), (24 : Nat)), ((0 : Nat), (10 : Nat), (17 : Nat), (15 : Nat))] :: tt) { frames := 6, cells := 1, slots := 6, locals := 134 } D vwCl (lt3 cI cL cJ) (lo cJ o fj ++ ow cI cL ad σ) (lo cJ o (vp_updL fj 0 (Int32.toInt64 (nI (u + 1)))) ++ ow cI cL ad (se_b (ls_z (u3 (u3 (u3 (u3 σ 5 (u + 4) 0 (if σ 1 0 j < σ 1 0 t then σ 1 0 t else σ 1 0 j)) 3 (u + 4) j 1) 3 (u + 4) t 1) 10 0 0 (nI (u + 1))) r (r + (u + 1))) n r (u + 1))) [.ref (ad 0), .int x, .int y, .ref o] (some (.int 0)) := by
  refine ok_startW (cc := b_La_cut) (own := RLa) (maxL := 5) (ret := some .int) (hh := [((0 : Nat), (10 : Nat), (13 : Nat), (24 : Nat)), ((0 : Nat), (10 : Nat), (17 : Nat), (15 : Nat))]) (by decide +kernel) rfl rfl (Nat.le_of_ble_eq_true rfl) ?_
  intro p e s m below meth c A F hr hlk hh hZ hA hP hK hD hS ls hl
  have hl : lv_has ls 5 [(0, .ref (ad 0)), (1, .int x), (2, .int y), (3, .ref o)] := hl
  have hx := F.1
  have hb := F.2.1
  refine lv_aload_n hx hb d_La_cut_0 rfl (lv_at hl 3 rfl) ?_
  refine lv_iconst (v := 0) hx hb d_La_cut_1 (by decide) ?_
  refine lv_aload_n hx hb d_La_cut_2 rfl (lv_at hl 0 rfl) ?_
  refine lv_iload_n hx hb d_La_cut_3 rfl (lv_at hl 1 rfl) ?_
  refine lv_iload_n hx hb d_La_cut_4 rfl (lv_at hl 2 rfl) ?_
  refine ok_VMF (wr := lo cJ o fj) (As := [.int x, .int y]) (rest := [.int 0, .ref o]) F (c_OB_cut σ h_r h_u hr4 hu4 hn hn9 hu3 hj hj9 ht ht9 h1 h3) 2 (tt_V (tt2 198 rfl rfl) i_OB_cut l_OB_cut in9_OB k_OB_cut) rfl ⟨rfl, rfl⟩ (by decide +kernel) ⟨Nat.le_of_ble_eq_true rfl, Nat.le_of_ble_eq_true rfl⟩ (hK.sub [0, 1] rfl) hP hD hS hA 0 5 rfl rfl ow_0 rfl hl.1 rfl (Nat.le_of_ble_eq_true rfl) ⟨Nat.zero_le _, Nat.zero_le _⟩ d_La_cut_5 (fun H locs hP hD hS => ?_)
  refine lv_i2l hx hb d_La_cut_8 rfl ?_
  refine va_last hx hb hK hP hD hS 0 2 rfl rfl (vp_in_nI (n := 0) (by decide) (by decide)) d_La_cut_9 (fun H locs hP hD hS => ?_)
  have hP : va_P D vwCl (lo cJ o (vp_updL fj 0 (Int32.toInt64 (nI (u + 1)))) ++ ow cI cL ad (se_b (ls_z (u3 (u3 (u3 (u3 σ 5 (u + 4) 0 (if σ 1 0 j < σ 1 0 t then σ 1 0 t else σ 1 0 j)) 3 (u + 4) j 1) 3 (u + 4) t 1) 10 0 0 (nI (u + 1))) r (r + (u + 1))) n r (u + 1))) H := hP
  have hD : va_D A (lo cJ o (vp_updL fj 0 (Int32.toInt64 (nI (u + 1)))) ++ ow cI cL ad (se_b (ls_z (u3 (u3 (u3 (u3 σ 5 (u + 4) 0 (if σ 1 0 j < σ 1 0 t then σ 1 0 t else σ 1 0 j)) 3 (u + 4) j 1) 3 (u + 4) t 1) 10 0 0 (nI (u + 1))) r (r + (u + 1))) n r (u + 1))) := hD
  refine lv_goto (tgt := 21) hx hb d_La_cut_10 (by decide) ?_
  refine lv_iconst (v := 0) hx hb d_La_cut_21 (by decide) ?_
  exact ok_iretW F hr hlk ⟨Nat.le_of_ble_eq_true rfl, Nat.le_of_ble_eq_true rfl⟩ hP hD hS rfl d_La_cut_22
set_option maxHeartbeats 4000000 in
set_option maxRecDepth 100000 in
theorem w_cut_1 (hfl : l.flags = pinnedFlags ++ [noTraceFlag]) (σ : oS) {x : Int32} {y : Int32} (h0 : ¬ ob_p σ x y = 0) : ok_MW l y_La_cut (Cond.codeWith y_La_cut b_La_cut 5 (some .int) [((0 : Nat), (10 : Nat), (13 : Nat), (24 : Nat)), ((0 : Nat), (10 : Nat), (17 : Nat), (15 : Nat))] :: tt) { frames := 7, cells := 1, slots := 6, locals := 105 } D vwCl (lt3 cI cL cJ) (lo cJ o fj ++ ow cI cL ad σ) (lo cJ o fj ++ ow cI cL ad σ) [.ref (ad 0), .int x, .int y, .ref o] (some (.int 1)) := by
  refine ok_startW (cc := b_La_cut) (own := RLa) (maxL := 5) (ret := some .int) (hh := [((0 : Nat), (10 : Nat), (13 : Nat), (24 : Nat)), ((0 : Nat), (10 : Nat), (17 : Nat), (15 : Nat))]) (by decide +kernel) rfl rfl (Nat.le_of_ble_eq_true rfl) ?_
  intro p e s m below meth c A F hr hlk hh hZ hA hP hK hD hS ls hl
  have hl : lv_has ls 5 [(0, .ref (ad 0)), (1, .int x), (2, .int y), (3, .ref o)] := hl
  have hx := F.1
  have hb := F.2.1
  refine lv_aload_n hx hb d_La_cut_0 rfl (lv_at hl 3 rfl) ?_
  refine lv_iconst (v := 0) hx hb d_La_cut_1 (by decide) ?_
  refine lv_aload_n hx hb d_La_cut_2 rfl (lv_at hl 0 rfl) ?_
  refine lv_iload_n hx hb d_La_cut_3 rfl (lv_at hl 1 rfl) ?_
  refine lv_iload_n hx hb d_La_cut_4 rfl (lv_at hl 2 rfl) ?_
  refine ok_VT (As := [.int x, .int y]) (rest := [.int 0, .ref o]) (tgt := 13) F (c_OB_cut_1 hfl σ h0) 2 (tt_V (tt2 198 rfl rfl) i_OB_cut l_OB_cut in9_OB k_OB_cut) rfl ⟨rfl, rfl⟩ (by decide +kernel) ⟨Nat.le_of_ble_eq_true rfl, Nat.le_of_ble_eq_true rfl⟩ (hK.sub [0, 1] rfl) (ok_right hP) (fun U hU hW9 => hZ.to hW9 (fun a c hc _ => by rw [hU]; exact hc)) 0 5 rfl rfl ow_0 rfl hl.1 rfl (Nat.le_of_ble_eq_true rfl) ⟨Nat.le_refl _, Nat.le_refl _⟩ d_La_cut_5 (by rw [hh]; exact ⟨Nat.zero_le _, Nat.lt_of_lt_of_le (Nat.lt_succ_self _) (Nat.le_of_ble_eq_true rfl), (fun z => by cases z), Or.inl ⟨(F.2.2.2.2 _ (List.mem_cons_of_mem _ (tt2 152 rfl rfl))), hZ.2.1 _ (List.mem_of_getElem? (i := 2) rfl), rfl⟩⟩) (fun H1 a h1 h2 => ?_)
  have hP := ok_grow h1 h2 hP
  have hS := ok_growS h1 h2 hS
  refine lv_astore (lv' := [(4, .ref a), (0, .ref (ad 0)), (1, .int x), (2, .int y), (3, .ref o)]) hx hb d_La_cut_13 hl (by decide) rfl (fun ls hl => ?_)
  refine lv_iconst (v := 1) hx hb d_La_cut_15 (by decide) ?_
  exact ok_iretW F hr hlk ⟨Nat.le_of_ble_eq_true rfl, Nat.le_of_ble_eq_true rfl⟩ hP hD hS rfl d_La_cut_16
set_option maxHeartbeats 4000000 in
set_option maxRecDepth 100000 in
theorem w_cut_2 (hfl : l.flags = pinnedFlags ++ [noTraceFlag]) (σ : oS) {r : Nat} {u : Nat} (h_r : σ 9 0 0 = nI r) (h_u : σ 10 0 0 = nI u) (hr4 : r ≤ 4) (hu4 : u ≤ 4) {x : Int32} {j : Nat} (hj : x = nI j) (hj9 : j < 5) {y : Int32} {t : Nat} (ht : y = nI t) (ht9 : t < 5) (h1 : ob_p σ x y = 0) (h0 : ¬ (σ 10 0 0 < 4 ∧ ls_hc σ j t u = false)) : ok_MW l y_La_cut (Cond.codeWith y_La_cut b_La_cut 5 (some .int) [((0 : Nat), (10 : Nat), (13 : Nat), (24 : Nat)), ((0 : Nat), (10 : Nat), (17 : Nat), (15 : Nat))] :: tt) { frames := 7, cells := 1, slots := 6, locals := 105 } D vwCl (lt3 cI cL cJ) (lo cJ o fj ++ ow cI cL ad σ) (lo cJ o fj ++ ow cI cL ad σ) [.ref (ad 0), .int x, .int y, .ref o] (some (.int 2)) := by
  refine ok_startW (cc := b_La_cut) (own := RLa) (maxL := 5) (ret := some .int) (hh := [((0 : Nat), (10 : Nat), (13 : Nat), (24 : Nat)), ((0 : Nat), (10 : Nat), (17 : Nat), (15 : Nat))]) (by decide +kernel) rfl rfl (Nat.le_of_ble_eq_true rfl) ?_
  intro p e s m below meth c A F hr hlk hh hZ hA hP hK hD hS ls hl
  have hl : lv_has ls 5 [(0, .ref (ad 0)), (1, .int x), (2, .int y), (3, .ref o)] := hl
  have hx := F.1
  have hb := F.2.1
  refine lv_aload_n hx hb d_La_cut_0 rfl (lv_at hl 3 rfl) ?_
  refine lv_iconst (v := 0) hx hb d_La_cut_1 (by decide) ?_
  refine lv_aload_n hx hb d_La_cut_2 rfl (lv_at hl 0 rfl) ?_
  refine lv_iload_n hx hb d_La_cut_3 rfl (lv_at hl 1 rfl) ?_
  refine lv_iload_n hx hb d_La_cut_4 rfl (lv_at hl 2 rfl) ?_
  refine ok_VT (As := [.int x, .int y]) (rest := [.int 0, .ref o]) (tgt := 17) F (c_OB_cut_2 hfl σ h_r h_u hr4 hu4 hj hj9 ht ht9 h1 h0) 2 (tt_V (tt2 198 rfl rfl) i_OB_cut l_OB_cut in9_OB k_OB_cut) rfl ⟨rfl, rfl⟩ (by decide +kernel) ⟨Nat.le_of_ble_eq_true rfl, Nat.le_of_ble_eq_true rfl⟩ (hK.sub [0, 1] rfl) (ok_right hP) (fun U hU hW9 => hZ.to hW9 (fun a c hc _ => by rw [hU]; exact hc)) 0 5 rfl rfl ow_0 rfl hl.1 rfl (Nat.le_of_ble_eq_true rfl) ⟨Nat.le_refl _, Nat.le_refl _⟩ d_La_cut_5 (by rw [hh]; exact ⟨Nat.zero_le _, Nat.lt_of_lt_of_le (Nat.lt_succ_self _) (Nat.le_of_ble_eq_true rfl), (fun z => by cases z), Or.inr ⟨"java/lang/IndexOutOfBoundsException", (F.2.2.2.2 _ (List.mem_cons_of_mem _ (tt2 152 rfl rfl))), hZ.2.2.1 (_, _) (List.mem_of_getElem? (i := 4) rfl), ⟨Nat.zero_le _, Nat.lt_of_lt_of_le (Nat.lt_succ_self _) (Nat.le_of_ble_eq_true rfl), (fun z => by cases z), Or.inl ⟨(F.2.2.2.2 _ (List.mem_cons_of_mem _ (tt2 1 rfl rfl))), hZ.2.1 _ (List.mem_of_getElem? (i := 1) rfl), rfl⟩⟩⟩⟩) (fun H1 a h1 h2 => ?_)
  have hP := ok_grow h1 h2 hP
  have hS := ok_growS h1 h2 hS
  refine lv_astore (lv' := [(4, .ref a), (0, .ref (ad 0)), (1, .int x), (2, .int y), (3, .ref o)]) hx hb d_La_cut_17 hl (by decide) rfl (fun ls hl => ?_)
  refine lv_iconst (v := 2) hx hb d_La_cut_19 (by decide) ?_
  exact ok_iretW F hr hlk ⟨Nat.le_of_ble_eq_true rfl, Nat.le_of_ble_eq_true rfl⟩ hP hD hS rfl d_La_cut_20
set_option maxHeartbeats 4000000 in
set_option maxRecDepth 100000 in
theorem w_run_0 (σ : oS) {r : Nat} {u : Nat} (h_r : σ 9 0 0 = nI r) (h_u : σ 10 0 0 = nI u) (hr4 : r ≤ 4) (hu4 : u ≤ 4) {n : Nat} (hn : σ 2 0 0 = nI n) (hn9 : n ≤ 5) (hfo : σ 17 0 0 = 0 ∨ σ 17 0 0 = 1) {q : Nat} (hq : σ 15 0 0 = nI q - 1) (hqn : n ≠ 0 → q ≤ n) {x : Int32} {f : Nat} (hf : x = nI f) (hf9 : f < 100001) (h1 : ¬ x < 0) (h2 : x ≤ 100000) : ok_MW l y_La_run (Cond.codeWith y_La_run b_La_run 4 (some .int) [((0 : Nat), (9 : Nat), (12 : Nat), (13 : Nat))] :: tt) { frames := 6, cells := 1, slots := 6, locals := 132 } D vwCl (lt3 cI cL cJ) (lo cJ o fj ++ ow cI cL ad σ) (lo cJ o (vp_updL fj 0 (Int32.toInt64 (se_r (se_G σ n r u f)))) ++ ow cI cL ad (se_G σ n r u f)) [.ref (ad 0), .int x, .ref o] (some (.int 0)) := by
  refine ok_startW (cc := b_La_run) (own := RLa) (maxL := 4) (ret := some .int) (hh := [((0 : Nat), (9 : Nat), (12 : Nat), (13 : Nat))]) (by decide +kernel) rfl rfl (Nat.le_of_ble_eq_true rfl) ?_
  intro p e s m below meth c A F hr hlk hh hZ hA hP hK hD hS ls hl
  have hl : lv_has ls 4 [(0, .ref (ad 0)), (1, .int x), (2, .ref o)] := hl
  have hx := F.1
  have hb := F.2.1
  refine lv_aload_n hx hb d_La_run_0 rfl (lv_at hl 2 rfl) ?_
  refine lv_iconst (v := 0) hx hb d_La_run_1 (by decide) ?_
  refine lv_aload_n hx hb d_La_run_2 rfl (lv_at hl 0 rfl) ?_
  refine lv_iload_n hx hb d_La_run_3 rfl (lv_at hl 1 rfl) ?_
  refine ok_VMF (wr := lo cJ o fj) (As := [.int x]) (rest := [.int 0, .ref o]) F (c_OB_run σ h_r h_u hr4 hu4 hn hn9 hfo hq hqn hf hf9 h1 h2) 1 (tt_V (tt2 226 rfl rfl) i_OB_run l_OB_run in9_OB k_OB_run) rfl ⟨rfl, rfl⟩ (by decide +kernel) ⟨Nat.le_of_ble_eq_true rfl, Nat.le_of_ble_eq_true rfl⟩ (hK.sub [0, 1] rfl) hP hD hS hA 0 5 rfl rfl ow_0 rfl hl.1 rfl (Nat.le_of_ble_eq_true rfl) ⟨Nat.zero_le _, Nat.zero_le _⟩ d_La_run_4 (fun H locs hP hD hS => ?_)
  refine lv_i2l hx hb d_La_run_7 rfl ?_
  refine va_last hx hb hK hP hD hS 0 2 rfl rfl (vp_in_nI (n := 0) (by decide) (by decide)) d_La_run_8 (fun H locs hP hD hS => ?_)
  have hP : va_P D vwCl (lo cJ o (vp_updL fj 0 (Int32.toInt64 (se_r (se_G σ n r u f)))) ++ ow cI cL ad (se_G σ n r u f)) H := hP
  have hD : va_D A (lo cJ o (vp_updL fj 0 (Int32.toInt64 (se_r (se_G σ n r u f)))) ++ ow cI cL ad (se_G σ n r u f)) := hD
  refine lv_goto (tgt := 15) hx hb d_La_run_9 (by decide) ?_
  refine lv_iconst (v := 0) hx hb d_La_run_15 (by decide) ?_
  exact ok_iretW F hr hlk ⟨Nat.le_of_ble_eq_true rfl, Nat.le_of_ble_eq_true rfl⟩ hP hD hS rfl d_La_run_16
set_option maxHeartbeats 4000000 in
set_option maxRecDepth 100000 in
theorem w_run_1 (hfl : l.flags = pinnedFlags ++ [noTraceFlag]) (σ : oS) {x : Int32} (h0 : ¬ (¬ x < 0 ∧ x ≤ 100000)) : ok_MW l y_La_run (Cond.codeWith y_La_run b_La_run 4 (some .int) [((0 : Nat), (9 : Nat), (12 : Nat), (13 : Nat))] :: tt) { frames := 7, cells := 1, slots := 6, locals := 103 } D vwCl (lt3 cI cL cJ) (lo cJ o fj ++ ow cI cL ad σ) (lo cJ o fj ++ ow cI cL ad σ) [.ref (ad 0), .int x, .ref o] (some (.int 1)) := by
  refine ok_startW (cc := b_La_run) (own := RLa) (maxL := 4) (ret := some .int) (hh := [((0 : Nat), (9 : Nat), (12 : Nat), (13 : Nat))]) (by decide +kernel) rfl rfl (Nat.le_of_ble_eq_true rfl) ?_
  intro p e s m below meth c A F hr hlk hh hZ hA hP hK hD hS ls hl
  have hl : lv_has ls 4 [(0, .ref (ad 0)), (1, .int x), (2, .ref o)] := hl
  have hx := F.1
  have hb := F.2.1
  refine lv_aload_n hx hb d_La_run_0 rfl (lv_at hl 2 rfl) ?_
  refine lv_iconst (v := 0) hx hb d_La_run_1 (by decide) ?_
  refine lv_aload_n hx hb d_La_run_2 rfl (lv_at hl 0 rfl) ?_
  refine lv_iload_n hx hb d_La_run_3 rfl (lv_at hl 1 rfl) ?_
  refine ok_VT (As := [.int x]) (rest := [.int 0, .ref o]) (tgt := 12) F (c_OB_run_1 hfl σ h0) 1 (tt_V (tt2 226 rfl rfl) i_OB_run l_OB_run in9_OB k_OB_run) rfl ⟨rfl, rfl⟩ (by decide +kernel) ⟨Nat.le_of_ble_eq_true rfl, Nat.le_of_ble_eq_true rfl⟩ (hK.sub [0, 1] rfl) (ok_right hP) (fun U hU hW9 => hZ.to hW9 (fun a c hc _ => by rw [hU]; exact hc)) 0 5 rfl rfl ow_0 rfl hl.1 rfl (Nat.le_of_ble_eq_true rfl) ⟨Nat.le_refl _, Nat.le_refl _⟩ d_La_run_4 (by rw [hh]; exact ⟨Nat.zero_le _, Nat.lt_of_lt_of_le (Nat.lt_succ_self _) (Nat.le_of_ble_eq_true rfl), (fun z => by cases z), Or.inl ⟨(F.2.2.2.2 _ (List.mem_cons_of_mem _ (tt2 0 rfl rfl))), hZ.2.1 _ (List.mem_of_getElem? (i := 0) rfl), rfl⟩⟩) (fun H1 a h1 h2 => ?_)
  have hP := ok_grow h1 h2 hP
  have hS := ok_growS h1 h2 hS
  refine lv_astore_n (lv' := [(3, .ref a), (0, .ref (ad 0)), (1, .int x), (2, .ref o)]) hx hb d_La_run_12 rfl hl (by decide) rfl (fun ls hl => ?_)
  refine lv_iconst (v := 1) hx hb d_La_run_13 (by decide) ?_
  exact ok_iretW F hr hlk ⟨Nat.le_of_ble_eq_true rfl, Nat.le_of_ble_eq_true rfl⟩ hP hD hS rfl d_La_run_14
set_option maxHeartbeats 4000000 in
set_option maxRecDepth 100000 in
theorem w_told_0 (σ : oS) (hfo : σ 17 0 0 = 0 ∨ σ 17 0 0 = 1) {x : Int32} (h1 : x = 0 ∨ x = 1) (h2 : x = 1 ∨ ¬ σ 17 0 0 = 0) : ok_MW l y_La_told (Cond.codeWith y_La_told b_La_told 4 (some .int) [((0 : Nat), (9 : Nat), (12 : Nat), (24 : Nat)), ((0 : Nat), (9 : Nat), (15 : Nat), (40 : Nat))] :: tt) { frames := 2, cells := 1, slots := 6, locals := 41 } D vwCl (lt3 cI cL cJ) (lo cJ o fj ++ ow cI cL ad σ) (lo cJ o (vp_updL fj 0 (Int32.toInt64 (if x = 1 then σ 16 0 0 else σ 18 0 0))) ++ ow cI cL ad σ) [.ref (ad 0), .int x, .ref o] (some (.int 0)) := by
  refine ok_startW (cc := b_La_told) (own := RLa) (maxL := 4) (ret := some .int) (hh := [((0 : Nat), (9 : Nat), (12 : Nat), (24 : Nat)), ((0 : Nat), (9 : Nat), (15 : Nat), (40 : Nat))]) (by decide +kernel) rfl rfl (Nat.le_of_ble_eq_true rfl) ?_
  intro p e s m below meth c A F hr hlk hh hZ hA hP hK hD hS ls hl
  have hl : lv_has ls 4 [(0, .ref (ad 0)), (1, .int x), (2, .ref o)] := hl
  have hx := F.1
  have hb := F.2.1
  refine lv_aload_n hx hb d_La_told_0 rfl (lv_at hl 2 rfl) ?_
  refine lv_iconst (v := 0) hx hb d_La_told_1 (by decide) ?_
  refine lv_aload_n hx hb d_La_told_2 rfl (lv_at hl 0 rfl) ?_
  refine lv_iload_n hx hb d_La_told_3 rfl (lv_at hl 1 rfl) ?_
  refine ok_VR (As := [.int x]) (rest := [.int 0, .ref o]) F (c_OB_told σ hfo h1 h2) 1 (tt_V (tt3 36 rfl rfl) i_OB_told l_OB_told in9_OB k_OB_told) rfl ⟨rfl, rfl⟩ (by decide +kernel) ⟨Nat.le_of_ble_eq_true rfl, Nat.le_of_ble_eq_true rfl⟩ (hK.sub [0, 1] rfl) (ok_right hP) 0 5 rfl rfl ow_0 rfl hl.1 rfl (Nat.le_of_ble_eq_true rfl) ⟨Nat.zero_le _, Nat.zero_le _⟩ d_La_told_4 ?_
  refine lv_i2l hx hb d_La_told_7 rfl ?_
  refine va_last hx hb hK hP hD hS 0 2 rfl rfl (vp_in_nI (n := 0) (by decide) (by decide)) d_La_told_8 (fun H locs hP hD hS => ?_)
  have hP : va_P D vwCl (lo cJ o (vp_updL fj 0 (Int32.toInt64 (if x = 1 then σ 16 0 0 else σ 18 0 0))) ++ ow cI cL ad σ) H := hP
  have hD : va_D A (lo cJ o (vp_updL fj 0 (Int32.toInt64 (if x = 1 then σ 16 0 0 else σ 18 0 0))) ++ ow cI cL ad σ) := hD
  refine lv_goto (tgt := 18) hx hb d_La_told_9 (by decide) ?_
  refine lv_iconst (v := 0) hx hb d_La_told_18 (by decide) ?_
  exact ok_iretW F hr hlk ⟨Nat.le_of_ble_eq_true rfl, Nat.le_of_ble_eq_true rfl⟩ hP hD hS rfl d_La_told_19
set_option maxHeartbeats 4000000 in
set_option maxRecDepth 100000 in
theorem w_told_1 (hfl : l.flags = pinnedFlags ++ [noTraceFlag]) (σ : oS) {x : Int32} (h0 : ¬ (x = 0 ∨ x = 1)) : ok_MW l y_La_told (Cond.codeWith y_La_told b_La_told 4 (some .int) [((0 : Nat), (9 : Nat), (12 : Nat), (24 : Nat)), ((0 : Nat), (9 : Nat), (15 : Nat), (40 : Nat))] :: tt) { frames := 7, cells := 1, slots := 6, locals := 103 } D vwCl (lt3 cI cL cJ) (lo cJ o fj ++ ow cI cL ad σ) (lo cJ o fj ++ ow cI cL ad σ) [.ref (ad 0), .int x, .ref o] (some (.int 1)) := by
  refine ok_startW (cc := b_La_told) (own := RLa) (maxL := 4) (ret := some .int) (hh := [((0 : Nat), (9 : Nat), (12 : Nat), (24 : Nat)), ((0 : Nat), (9 : Nat), (15 : Nat), (40 : Nat))]) (by decide +kernel) rfl rfl (Nat.le_of_ble_eq_true rfl) ?_
  intro p e s m below meth c A F hr hlk hh hZ hA hP hK hD hS ls hl
  have hl : lv_has ls 4 [(0, .ref (ad 0)), (1, .int x), (2, .ref o)] := hl
  have hx := F.1
  have hb := F.2.1
  refine lv_aload_n hx hb d_La_told_0 rfl (lv_at hl 2 rfl) ?_
  refine lv_iconst (v := 0) hx hb d_La_told_1 (by decide) ?_
  refine lv_aload_n hx hb d_La_told_2 rfl (lv_at hl 0 rfl) ?_
  refine lv_iload_n hx hb d_La_told_3 rfl (lv_at hl 1 rfl) ?_
  refine ok_VT (As := [.int x]) (rest := [.int 0, .ref o]) (tgt := 12) F (c_OB_told_1 hfl σ h0) 1 (tt_V (tt3 36 rfl rfl) i_OB_told l_OB_told in9_OB k_OB_told) rfl ⟨rfl, rfl⟩ (by decide +kernel) ⟨Nat.le_of_ble_eq_true rfl, Nat.le_of_ble_eq_true rfl⟩ (hK.sub [0, 1] rfl) (ok_right hP) (fun U hU hW9 => hZ.to hW9 (fun a c hc _ => by rw [hU]; exact hc)) 0 5 rfl rfl ow_0 rfl hl.1 rfl (Nat.le_of_ble_eq_true rfl) ⟨Nat.le_refl _, Nat.le_refl _⟩ d_La_told_4 (by rw [hh]; exact ⟨Nat.zero_le _, Nat.lt_of_lt_of_le (Nat.lt_succ_self _) (Nat.le_of_ble_eq_true rfl), (fun z => by cases z), Or.inl ⟨(F.2.2.2.2 _ (List.mem_cons_of_mem _ (tt2 152 rfl rfl))), hZ.2.1 _ (List.mem_of_getElem? (i := 2) rfl), rfl⟩⟩) (fun H1 a h1 h2 => ?_)
  have hP := ok_grow h1 h2 hP
  have hS := ok_growS h1 h2 hS
  refine lv_astore_n (lv' := [(3, .ref a), (0, .ref (ad 0)), (1, .int x), (2, .ref o)]) hx hb d_La_told_12 rfl hl (by decide) rfl (fun ls hl => ?_)
  refine lv_iconst (v := 1) hx hb d_La_told_13 (by decide) ?_
  exact ok_iretW F hr hlk ⟨Nat.le_of_ble_eq_true rfl, Nat.le_of_ble_eq_true rfl⟩ hP hD hS rfl d_La_told_14
set_option maxHeartbeats 4000000 in
set_option maxRecDepth 100000 in
theorem w_told_2 (hfl : l.flags = pinnedFlags ++ [noTraceFlag]) (σ : oS) (hfo : σ 17 0 0 = 0 ∨ σ 17 0 0 = 1) {x : Int32} (h1 : x = 0 ∨ x = 1) (h2 : ¬ x = 1) (h0 : σ 17 0 0 = 0) : ok_MW l y_La_told (Cond.codeWith y_La_told b_La_told 4 (some .int) [((0 : Nat), (9 : Nat), (12 : Nat), (24 : Nat)), ((0 : Nat), (9 : Nat), (15 : Nat), (40 : Nat))] :: tt) { frames := 7, cells := 1, slots := 6, locals := 103 } D vwCl (lt3 cI cL cJ) (lo cJ o fj ++ ow cI cL ad σ) (lo cJ o fj ++ ow cI cL ad σ) [.ref (ad 0), .int x, .ref o] (some (.int 2)) := by
  refine ok_startW (cc := b_La_told) (own := RLa) (maxL := 4) (ret := some .int) (hh := [((0 : Nat), (9 : Nat), (12 : Nat), (24 : Nat)), ((0 : Nat), (9 : Nat), (15 : Nat), (40 : Nat))]) (by decide +kernel) rfl rfl (Nat.le_of_ble_eq_true rfl) ?_
  intro p e s m below meth c A F hr hlk hh hZ hA hP hK hD hS ls hl
  have hl : lv_has ls 4 [(0, .ref (ad 0)), (1, .int x), (2, .ref o)] := hl
  have hx := F.1
  have hb := F.2.1
  refine lv_aload_n hx hb d_La_told_0 rfl (lv_at hl 2 rfl) ?_
  refine lv_iconst (v := 0) hx hb d_La_told_1 (by decide) ?_
  refine lv_aload_n hx hb d_La_told_2 rfl (lv_at hl 0 rfl) ?_
  refine lv_iload_n hx hb d_La_told_3 rfl (lv_at hl 1 rfl) ?_
  refine ok_VT (As := [.int x]) (rest := [.int 0, .ref o]) (tgt := 15) F (c_OB_told_2 hfl σ hfo h1 h2 h0) 1 (tt_V (tt3 36 rfl rfl) i_OB_told l_OB_told in9_OB k_OB_told) rfl ⟨rfl, rfl⟩ (by decide +kernel) ⟨Nat.le_of_ble_eq_true rfl, Nat.le_of_ble_eq_true rfl⟩ (hK.sub [0, 1] rfl) (ok_right hP) (fun U hU hW9 => hZ.to hW9 (fun a c hc _ => by rw [hU]; exact hc)) 0 5 rfl rfl ow_0 rfl hl.1 rfl (Nat.le_of_ble_eq_true rfl) ⟨Nat.le_refl _, Nat.le_refl _⟩ d_La_told_4 (by rw [hh]; exact ⟨Nat.zero_le _, Nat.lt_of_lt_of_le (Nat.lt_succ_self _) (Nat.le_of_ble_eq_true rfl), (fun z => by cases z), Or.inr ⟨"java/lang/IndexOutOfBoundsException", (F.2.2.2.2 _ (List.mem_cons_of_mem _ (tt2 152 rfl rfl))), hZ.2.2.1 (_, _) (List.mem_of_getElem? (i := 11) rfl), ⟨Nat.zero_le _, Nat.lt_of_lt_of_le (Nat.lt_succ_self _) (Nat.le_of_ble_eq_true rfl), (fun z => by cases z), Or.inl ⟨(F.2.2.2.2 _ (List.mem_cons_of_mem _ (tt3 35 rfl rfl))), hZ.2.1 _ (List.mem_of_getElem? (i := 3) rfl), rfl⟩⟩⟩⟩) (fun H1 a h1 h2 => ?_)
  have hP := ok_grow h1 h2 hP
  have hS := ok_growS h1 h2 hS
  refine lv_astore_n (lv' := [(3, .ref a), (0, .ref (ad 0)), (1, .int x), (2, .ref o)]) hx hb d_La_told_15 rfl hl (by decide) rfl (fun ls hl => ?_)
  refine lv_iconst (v := 2) hx hb d_La_told_16 (by decide) ?_
  exact ok_iretW F hr hlk ⟨Nat.le_of_ble_eq_true rfl, Nat.le_of_ble_eq_true rfl⟩ hP hD hS rfl d_La_told_17
set_option maxHeartbeats 4000000 in
set_option maxRecDepth 100000 in
theorem w_value_0 (σ : oS) (hfo : σ 17 0 0 = 0 ∨ σ 17 0 0 = 1) {x : Int32} {j : Nat} (hj : x = nI j) (hj9 : j < 5) (h1 : ob_c σ x = 0) (h2 : ¬ σ 17 0 0 = 0) : ok_MW l y_La_value (Cond.codeWith y_La_value b_La_value 4 (some .int) [((0 : Nat), (9 : Nat), (12 : Nat), (24 : Nat)), ((0 : Nat), (9 : Nat), (15 : Nat), (40 : Nat))] :: tt) { frames := 3, cells := 1, slots := 6, locals := 62 } D vwCl (lt3 cI cL cJ) (lo cJ o fj ++ ow cI cL ad σ) (lo cJ o (vp_updL fj 0 (Int32.toInt64 (σ 12 0 j))) ++ ow cI cL ad σ) [.ref (ad 0), .int x, .ref o] (some (.int 0)) := by
  refine ok_startW (cc := b_La_value) (own := RLa) (maxL := 4) (ret := some .int) (hh := [((0 : Nat), (9 : Nat), (12 : Nat), (24 : Nat)), ((0 : Nat), (9 : Nat), (15 : Nat), (40 : Nat))]) (by decide +kernel) rfl rfl (Nat.le_of_ble_eq_true rfl) ?_
  intro p e s m below meth c A F hr hlk hh hZ hA hP hK hD hS ls hl
  have hl : lv_has ls 4 [(0, .ref (ad 0)), (1, .int x), (2, .ref o)] := hl
  have hx := F.1
  have hb := F.2.1
  refine lv_aload_n hx hb d_La_value_0 rfl (lv_at hl 2 rfl) ?_
  refine lv_iconst (v := 0) hx hb d_La_value_1 (by decide) ?_
  refine lv_aload_n hx hb d_La_value_2 rfl (lv_at hl 0 rfl) ?_
  refine lv_iload_n hx hb d_La_value_3 rfl (lv_at hl 1 rfl) ?_
  refine ok_VR (As := [.int x]) (rest := [.int 0, .ref o]) F (c_OB_value σ hfo hj hj9 h1 h2) 1 (tt_V (tt3 72 rfl rfl) i_OB_value l_OB_value in9_OB k_OB_value) rfl ⟨rfl, rfl⟩ (by decide +kernel) ⟨Nat.le_of_ble_eq_true rfl, Nat.le_of_ble_eq_true rfl⟩ (hK.sub [0, 1] rfl) (ok_right hP) 0 5 rfl rfl ow_0 rfl hl.1 rfl (Nat.le_of_ble_eq_true rfl) ⟨Nat.zero_le _, Nat.zero_le _⟩ d_La_value_4 ?_
  refine lv_i2l hx hb d_La_value_7 rfl ?_
  refine va_last hx hb hK hP hD hS 0 2 rfl rfl (vp_in_nI (n := 0) (by decide) (by decide)) d_La_value_8 (fun H locs hP hD hS => ?_)
  have hP : va_P D vwCl (lo cJ o (vp_updL fj 0 (Int32.toInt64 (σ 12 0 j))) ++ ow cI cL ad σ) H := hP
  have hD : va_D A (lo cJ o (vp_updL fj 0 (Int32.toInt64 (σ 12 0 j))) ++ ow cI cL ad σ) := hD
  refine lv_goto (tgt := 18) hx hb d_La_value_9 (by decide) ?_
  refine lv_iconst (v := 0) hx hb d_La_value_18 (by decide) ?_
  exact ok_iretW F hr hlk ⟨Nat.le_of_ble_eq_true rfl, Nat.le_of_ble_eq_true rfl⟩ hP hD hS rfl d_La_value_19
set_option maxHeartbeats 4000000 in
set_option maxRecDepth 100000 in
theorem w_value_1 (hfl : l.flags = pinnedFlags ++ [noTraceFlag]) (σ : oS) {x : Int32} (h0 : ¬ ob_c σ x = 0) : ok_MW l y_La_value (Cond.codeWith y_La_value b_La_value 4 (some .int) [((0 : Nat), (9 : Nat), (12 : Nat), (24 : Nat)), ((0 : Nat), (9 : Nat), (15 : Nat), (40 : Nat))] :: tt) { frames := 7, cells := 1, slots := 6, locals := 103 } D vwCl (lt3 cI cL cJ) (lo cJ o fj ++ ow cI cL ad σ) (lo cJ o fj ++ ow cI cL ad σ) [.ref (ad 0), .int x, .ref o] (some (.int 1)) := by
  refine ok_startW (cc := b_La_value) (own := RLa) (maxL := 4) (ret := some .int) (hh := [((0 : Nat), (9 : Nat), (12 : Nat), (24 : Nat)), ((0 : Nat), (9 : Nat), (15 : Nat), (40 : Nat))]) (by decide +kernel) rfl rfl (Nat.le_of_ble_eq_true rfl) ?_
  intro p e s m below meth c A F hr hlk hh hZ hA hP hK hD hS ls hl
  have hl : lv_has ls 4 [(0, .ref (ad 0)), (1, .int x), (2, .ref o)] := hl
  have hx := F.1
  have hb := F.2.1
  refine lv_aload_n hx hb d_La_value_0 rfl (lv_at hl 2 rfl) ?_
  refine lv_iconst (v := 0) hx hb d_La_value_1 (by decide) ?_
  refine lv_aload_n hx hb d_La_value_2 rfl (lv_at hl 0 rfl) ?_
  refine lv_iload_n hx hb d_La_value_3 rfl (lv_at hl 1 rfl) ?_
  refine ok_VT (As := [.int x]) (rest := [.int 0, .ref o]) (tgt := 12) F (c_OB_value_1 hfl σ h0) 1 (tt_V (tt3 72 rfl rfl) i_OB_value l_OB_value in9_OB k_OB_value) rfl ⟨rfl, rfl⟩ (by decide +kernel) ⟨Nat.le_of_ble_eq_true rfl, Nat.le_of_ble_eq_true rfl⟩ (hK.sub [0, 1] rfl) (ok_right hP) (fun U hU hW9 => hZ.to hW9 (fun a c hc _ => by rw [hU]; exact hc)) 0 5 rfl rfl ow_0 rfl hl.1 rfl (Nat.le_of_ble_eq_true rfl) ⟨Nat.le_refl _, Nat.le_refl _⟩ d_La_value_4 (by rw [hh]; exact ⟨Nat.zero_le _, Nat.lt_of_lt_of_le (Nat.lt_succ_self _) (Nat.le_of_ble_eq_true rfl), (fun z => by cases z), Or.inl ⟨(F.2.2.2.2 _ (List.mem_cons_of_mem _ (tt2 152 rfl rfl))), hZ.2.1 _ (List.mem_of_getElem? (i := 2) rfl), rfl⟩⟩) (fun H1 a h1 h2 => ?_)
  have hP := ok_grow h1 h2 hP
  have hS := ok_growS h1 h2 hS
  refine lv_astore_n (lv' := [(3, .ref a), (0, .ref (ad 0)), (1, .int x), (2, .ref o)]) hx hb d_La_value_12 rfl hl (by decide) rfl (fun ls hl => ?_)
  refine lv_iconst (v := 1) hx hb d_La_value_13 (by decide) ?_
  exact ok_iretW F hr hlk ⟨Nat.le_of_ble_eq_true rfl, Nat.le_of_ble_eq_true rfl⟩ hP hD hS rfl d_La_value_14
set_option maxHeartbeats 4000000 in
set_option maxRecDepth 100000 in
theorem w_value_2 (hfl : l.flags = pinnedFlags ++ [noTraceFlag]) (σ : oS) (hfo : σ 17 0 0 = 0 ∨ σ 17 0 0 = 1) {x : Int32} (h1 : ob_c σ x = 0) (h0 : σ 17 0 0 = 0) : ok_MW l y_La_value (Cond.codeWith y_La_value b_La_value 4 (some .int) [((0 : Nat), (9 : Nat), (12 : Nat), (24 : Nat)), ((0 : Nat), (9 : Nat), (15 : Nat), (40 : Nat))] :: tt) { frames := 7, cells := 1, slots := 6, locals := 103 } D vwCl (lt3 cI cL cJ) (lo cJ o fj ++ ow cI cL ad σ) (lo cJ o fj ++ ow cI cL ad σ) [.ref (ad 0), .int x, .ref o] (some (.int 2)) := by
  refine ok_startW (cc := b_La_value) (own := RLa) (maxL := 4) (ret := some .int) (hh := [((0 : Nat), (9 : Nat), (12 : Nat), (24 : Nat)), ((0 : Nat), (9 : Nat), (15 : Nat), (40 : Nat))]) (by decide +kernel) rfl rfl (Nat.le_of_ble_eq_true rfl) ?_
  intro p e s m below meth c A F hr hlk hh hZ hA hP hK hD hS ls hl
  have hl : lv_has ls 4 [(0, .ref (ad 0)), (1, .int x), (2, .ref o)] := hl
  have hx := F.1
  have hb := F.2.1
  refine lv_aload_n hx hb d_La_value_0 rfl (lv_at hl 2 rfl) ?_
  refine lv_iconst (v := 0) hx hb d_La_value_1 (by decide) ?_
  refine lv_aload_n hx hb d_La_value_2 rfl (lv_at hl 0 rfl) ?_
  refine lv_iload_n hx hb d_La_value_3 rfl (lv_at hl 1 rfl) ?_
  refine ok_VT (As := [.int x]) (rest := [.int 0, .ref o]) (tgt := 15) F (c_OB_value_2 hfl σ hfo h1 h0) 1 (tt_V (tt3 72 rfl rfl) i_OB_value l_OB_value in9_OB k_OB_value) rfl ⟨rfl, rfl⟩ (by decide +kernel) ⟨Nat.le_of_ble_eq_true rfl, Nat.le_of_ble_eq_true rfl⟩ (hK.sub [0, 1] rfl) (ok_right hP) (fun U hU hW9 => hZ.to hW9 (fun a c hc _ => by rw [hU]; exact hc)) 0 5 rfl rfl ow_0 rfl hl.1 rfl (Nat.le_of_ble_eq_true rfl) ⟨Nat.le_refl _, Nat.le_refl _⟩ d_La_value_4 (by rw [hh]; exact ⟨Nat.zero_le _, Nat.lt_of_lt_of_le (Nat.lt_succ_self _) (Nat.le_of_ble_eq_true rfl), (fun z => by cases z), Or.inr ⟨"java/lang/IndexOutOfBoundsException", (F.2.2.2.2 _ (List.mem_cons_of_mem _ (tt2 152 rfl rfl))), hZ.2.2.1 (_, _) (List.mem_of_getElem? (i := 11) rfl), ⟨Nat.zero_le _, Nat.lt_of_lt_of_le (Nat.lt_succ_self _) (Nat.le_of_ble_eq_true rfl), (fun z => by cases z), Or.inl ⟨(F.2.2.2.2 _ (List.mem_cons_of_mem _ (tt3 35 rfl rfl))), hZ.2.1 _ (List.mem_of_getElem? (i := 3) rfl), rfl⟩⟩⟩⟩) (fun H1 a h1 h2 => ?_)
  have hP := ok_grow h1 h2 hP
  have hS := ok_growS h1 h2 hS
  refine lv_astore_n (lv' := [(3, .ref a), (0, .ref (ad 0)), (1, .int x), (2, .ref o)]) hx hb d_La_value_15 rfl hl (by decide) rfl (fun ls hl => ?_)
  refine lv_iconst (v := 2) hx hb d_La_value_16 (by decide) ?_
  exact ok_iretW F hr hlk ⟨Nat.le_of_ble_eq_true rfl, Nat.le_of_ble_eq_true rfl⟩ hP hD hS rfl d_La_value_17
set_option maxHeartbeats 4000000 in
set_option maxRecDepth 100000 in
theorem w_multiplier_0 (σ : oS) {r : Nat} {u : Nat} (h_r : σ 9 0 0 = nI r) (h_u : σ 10 0 0 = nI u) (hr4 : r ≤ 4) (hu4 : u ≤ 4) {x : Int32} {k : Nat} (hk : x = nI k) (hk9 : k < 8) {y : Int32} (hk8 : k < r + u) (h1 : ¬ x < 0) (h2 : x < σ 9 0 0 + σ 10 0 0) (h3 : ¬ li_w σ (ls_i r k) y = 0) : ok_MW l y_La_multiplier (Cond.codeWith y_La_multiplier b_La_multiplier 4 (some .int) [((0 : Nat), (6 : Nat), (9 : Nat), (24 : Nat)), ((0 : Nat), (6 : Nat), (12 : Nat), (13 : Nat))] :: tt) { frames := 2, cells := 1, slots := 6, locals := 44 } D vwCl (lt3 cI cL cJ) (lo cJ o fj ++ ow cI cL ad σ) (lo cJ o fj ++ ow cI cL ad (u3 σ 6 (ls_i r k) 0 y)) [.ref (ad 0), .int x, .int y] (some (.int 0)) := by
  refine ok_startW (cc := b_La_multiplier) (own := RLa) (maxL := 4) (ret := some .int) (hh := [((0 : Nat), (6 : Nat), (9 : Nat), (24 : Nat)), ((0 : Nat), (6 : Nat), (12 : Nat), (13 : Nat))]) (by decide +kernel) rfl rfl (Nat.le_of_ble_eq_true rfl) ?_
  intro p e s m below meth c A F hr hlk hh hZ hA hP hK hD hS ls hl
  have hl : lv_has ls 4 [(0, .ref (ad 0)), (1, .int x), (2, .int y)] := hl
  have hx := F.1
  have hb := F.2.1
  refine lv_aload_n hx hb d_La_multiplier_0 rfl (lv_at hl 0 rfl) ?_
  refine lv_iload_n hx hb d_La_multiplier_1 rfl (lv_at hl 1 rfl) ?_
  refine lv_iload_n hx hb d_La_multiplier_2 rfl (lv_at hl 2 rfl) ?_
  refine ok_VMF (wr := lo cJ o fj) (As := [.int x, .int y]) (rest := []) F (c_OB_multiplier σ h_r h_u hr4 hu4 hk hk9 hk8 h1 h2 h3) 2 (tt_V (tt3 83 rfl rfl) i_OB_multiplier l_OB_multiplier in9_OB k_OB_multiplier) rfl ⟨rfl, rfl⟩ (by decide +kernel) ⟨Nat.le_of_ble_eq_true rfl, Nat.le_of_ble_eq_true rfl⟩ (hK.sub [0, 1] rfl) hP hD hS hA 0 5 rfl rfl ow_0 rfl hl.1 rfl (Nat.le_of_ble_eq_true rfl) ⟨Nat.zero_le _, Nat.zero_le _⟩ d_La_multiplier_3 (fun H locs hP hD hS => ?_)
  refine lv_goto (tgt := 15) hx hb d_La_multiplier_6 (by decide) ?_
  refine lv_iconst (v := 0) hx hb d_La_multiplier_15 (by decide) ?_
  exact ok_iretW F hr hlk ⟨Nat.le_of_ble_eq_true rfl, Nat.le_of_ble_eq_true rfl⟩ hP hD hS rfl d_La_multiplier_16
set_option maxHeartbeats 4000000 in
set_option maxRecDepth 100000 in
theorem w_multiplier_1 (hfl : l.flags = pinnedFlags ++ [noTraceFlag]) (σ : oS) {x : Int32} {y : Int32} (h0 : ¬ (¬ x < 0 ∧ x < σ 9 0 0 + σ 10 0 0)) : ok_MW l y_La_multiplier (Cond.codeWith y_La_multiplier b_La_multiplier 4 (some .int) [((0 : Nat), (6 : Nat), (9 : Nat), (24 : Nat)), ((0 : Nat), (6 : Nat), (12 : Nat), (13 : Nat))] :: tt) { frames := 7, cells := 1, slots := 6, locals := 105 } D vwCl (lt3 cI cL cJ) (lo cJ o fj ++ ow cI cL ad σ) (lo cJ o fj ++ ow cI cL ad σ) [.ref (ad 0), .int x, .int y] (some (.int 1)) := by
  refine ok_startW (cc := b_La_multiplier) (own := RLa) (maxL := 4) (ret := some .int) (hh := [((0 : Nat), (6 : Nat), (9 : Nat), (24 : Nat)), ((0 : Nat), (6 : Nat), (12 : Nat), (13 : Nat))]) (by decide +kernel) rfl rfl (Nat.le_of_ble_eq_true rfl) ?_
  intro p e s m below meth c A F hr hlk hh hZ hA hP hK hD hS ls hl
  have hl : lv_has ls 4 [(0, .ref (ad 0)), (1, .int x), (2, .int y)] := hl
  have hx := F.1
  have hb := F.2.1
  refine lv_aload_n hx hb d_La_multiplier_0 rfl (lv_at hl 0 rfl) ?_
  refine lv_iload_n hx hb d_La_multiplier_1 rfl (lv_at hl 1 rfl) ?_
  refine lv_iload_n hx hb d_La_multiplier_2 rfl (lv_at hl 2 rfl) ?_
  refine ok_VT (As := [.int x, .int y]) (rest := []) (tgt := 9) F (c_OB_multiplier_1 hfl σ h0) 2 (tt_V (tt3 83 rfl rfl) i_OB_multiplier l_OB_multiplier in9_OB k_OB_multiplier) rfl ⟨rfl, rfl⟩ (by decide +kernel) ⟨Nat.le_of_ble_eq_true rfl, Nat.le_of_ble_eq_true rfl⟩ (hK.sub [0, 1] rfl) (ok_right hP) (fun U hU hW9 => hZ.to hW9 (fun a c hc _ => by rw [hU]; exact hc)) 0 5 rfl rfl ow_0 rfl hl.1 rfl (Nat.le_of_ble_eq_true rfl) ⟨Nat.le_refl _, Nat.le_refl _⟩ d_La_multiplier_3 (by rw [hh]; exact ⟨Nat.zero_le _, Nat.lt_of_lt_of_le (Nat.lt_succ_self _) (Nat.le_of_ble_eq_true rfl), (fun z => by cases z), Or.inl ⟨(F.2.2.2.2 _ (List.mem_cons_of_mem _ (tt2 152 rfl rfl))), hZ.2.1 _ (List.mem_of_getElem? (i := 2) rfl), rfl⟩⟩) (fun H1 a h1 h2 => ?_)
  have hP := ok_grow h1 h2 hP
  have hS := ok_growS h1 h2 hS
  refine lv_astore_n (lv' := [(3, .ref a), (0, .ref (ad 0)), (1, .int x), (2, .int y)]) hx hb d_La_multiplier_9 rfl hl (by decide) rfl (fun ls hl => ?_)
  refine lv_iconst (v := 1) hx hb d_La_multiplier_10 (by decide) ?_
  exact ok_iretW F hr hlk ⟨Nat.le_of_ble_eq_true rfl, Nat.le_of_ble_eq_true rfl⟩ hP hD hS rfl d_La_multiplier_11
set_option maxHeartbeats 4000000 in
set_option maxRecDepth 100000 in
theorem w_multiplier_2 (hfl : l.flags = pinnedFlags ++ [noTraceFlag]) (σ : oS) {r : Nat} {u : Nat} (h_r : σ 9 0 0 = nI r) (h_u : σ 10 0 0 = nI u) (hr4 : r ≤ 4) (hu4 : u ≤ 4) {x : Int32} {k : Nat} (hk : x = nI k) (hk9 : k < 8) {y : Int32} (hk8 : k < r + u) (h1 : ¬ x < 0) (h2 : x < σ 9 0 0 + σ 10 0 0) (h0 : li_w σ (ls_i r k) y = 0) : ok_MW l y_La_multiplier (Cond.codeWith y_La_multiplier b_La_multiplier 4 (some .int) [((0 : Nat), (6 : Nat), (9 : Nat), (24 : Nat)), ((0 : Nat), (6 : Nat), (12 : Nat), (13 : Nat))] :: tt) { frames := 7, cells := 1, slots := 6, locals := 105 } D vwCl (lt3 cI cL cJ) (lo cJ o fj ++ ow cI cL ad σ) (lo cJ o fj ++ ow cI cL ad σ) [.ref (ad 0), .int x, .int y] (some (.int 2)) := by
  refine ok_startW (cc := b_La_multiplier) (own := RLa) (maxL := 4) (ret := some .int) (hh := [((0 : Nat), (6 : Nat), (9 : Nat), (24 : Nat)), ((0 : Nat), (6 : Nat), (12 : Nat), (13 : Nat))]) (by decide +kernel) rfl rfl (Nat.le_of_ble_eq_true rfl) ?_
  intro p e s m below meth c A F hr hlk hh hZ hA hP hK hD hS ls hl
  have hl : lv_has ls 4 [(0, .ref (ad 0)), (1, .int x), (2, .int y)] := hl
  have hx := F.1
  have hb := F.2.1
  refine lv_aload_n hx hb d_La_multiplier_0 rfl (lv_at hl 0 rfl) ?_
  refine lv_iload_n hx hb d_La_multiplier_1 rfl (lv_at hl 1 rfl) ?_
  refine lv_iload_n hx hb d_La_multiplier_2 rfl (lv_at hl 2 rfl) ?_
  refine ok_VT (As := [.int x, .int y]) (rest := []) (tgt := 12) F (c_OB_multiplier_2 hfl σ h_r h_u hr4 hu4 hk hk9 hk8 h1 h2 h0) 2 (tt_V (tt3 83 rfl rfl) i_OB_multiplier l_OB_multiplier in9_OB k_OB_multiplier) rfl ⟨rfl, rfl⟩ (by decide +kernel) ⟨Nat.le_of_ble_eq_true rfl, Nat.le_of_ble_eq_true rfl⟩ (hK.sub [0, 1] rfl) (ok_right hP) (fun U hU hW9 => hZ.to hW9 (fun a c hc _ => by rw [hU]; exact hc)) 0 5 rfl rfl ow_0 rfl hl.1 rfl (Nat.le_of_ble_eq_true rfl) ⟨Nat.le_refl _, Nat.le_refl _⟩ d_La_multiplier_3 (by rw [hh]; exact ⟨Nat.zero_le _, Nat.lt_of_lt_of_le (Nat.lt_succ_self _) (Nat.le_of_ble_eq_true rfl), (fun z => by cases z), Or.inr ⟨"java/lang/IndexOutOfBoundsException", (F.2.2.2.2 _ (List.mem_cons_of_mem _ (tt2 152 rfl rfl))), hZ.2.2.1 (_, _) (List.mem_of_getElem? (i := 1) rfl), ⟨Nat.zero_le _, Nat.lt_of_lt_of_le (Nat.lt_succ_self _) (Nat.le_of_ble_eq_true rfl), (fun z => by cases z), Or.inl ⟨(F.2.2.2.2 _ (List.mem_cons_of_mem _ (tt2 0 rfl rfl))), hZ.2.1 _ (List.mem_of_getElem? (i := 0) rfl), rfl⟩⟩⟩⟩) (fun H1 a h1 h2 => ?_)
  have hP := ok_grow h1 h2 hP
  have hS := ok_growS h1 h2 hS
  refine lv_astore_n (lv' := [(3, .ref a), (0, .ref (ad 0)), (1, .int x), (2, .int y)]) hx hb d_La_multiplier_12 rfl hl (by decide) rfl (fun ls hl => ?_)
  refine lv_iconst (v := 2) hx hb d_La_multiplier_13 (by decide) ?_
  exact ok_iretW F hr hlk ⟨Nat.le_of_ble_eq_true rfl, Nat.le_of_ble_eq_true rfl⟩ hP hD hS rfl d_La_multiplier_14
set_option maxHeartbeats 4000000 in
set_option maxRecDepth 100000 in
theorem w_follow_0 (σ : oS) {x : Int32} {j : Nat} (hj : x = nI j) (hj9 : j < 5) {y : Int32} (h1 : ob_p σ x y = 0) (h2 : σ 20 0 0 < 10) (h3 : fo_b (σ 19 0 j) y = 0) : ok_MW l y_La_follow (Cond.codeWith y_La_follow b_La_follow 5 (some .int) [((0 : Nat), (10 : Nat), (13 : Nat), (24 : Nat)), ((0 : Nat), (10 : Nat), (17 : Nat), (15 : Nat))] :: tt) { frames := 4, cells := 1, slots := 6, locals := 85 } D vwCl (lt3 cI cL cJ) (lo cJ o fj ++ ow cI cL ad σ) (lo cJ o (vp_updL fj 0 (Int32.toInt64 (σ 20 0 0 + 1))) ++ ow cI cL ad (u3 (u3 σ 19 0 j (σ 19 0 j ||| (1 <<< (y &&& 31)))) 20 0 0 (σ 20 0 0 + 1))) [.ref (ad 0), .int x, .int y, .ref o] (some (.int 0)) := by
  refine ok_startW (cc := b_La_follow) (own := RLa) (maxL := 5) (ret := some .int) (hh := [((0 : Nat), (10 : Nat), (13 : Nat), (24 : Nat)), ((0 : Nat), (10 : Nat), (17 : Nat), (15 : Nat))]) (by decide +kernel) rfl rfl (Nat.le_of_ble_eq_true rfl) ?_
  intro p e s m below meth c A F hr hlk hh hZ hA hP hK hD hS ls hl
  have hl : lv_has ls 5 [(0, .ref (ad 0)), (1, .int x), (2, .int y), (3, .ref o)] := hl
  have hx := F.1
  have hb := F.2.1
  refine lv_aload_n hx hb d_La_follow_0 rfl (lv_at hl 3 rfl) ?_
  refine lv_iconst (v := 0) hx hb d_La_follow_1 (by decide) ?_
  refine lv_aload_n hx hb d_La_follow_2 rfl (lv_at hl 0 rfl) ?_
  refine lv_iload_n hx hb d_La_follow_3 rfl (lv_at hl 1 rfl) ?_
  refine lv_iload_n hx hb d_La_follow_4 rfl (lv_at hl 2 rfl) ?_
  refine ok_VMF (wr := lo cJ o fj) (As := [.int x, .int y]) (rest := [.int 0, .ref o]) F (c_OB_follow σ hj hj9 h1 h2 h3) 2 (tt_V (tt3 99 rfl rfl) i_OB_follow l_OB_follow in9_OB k_OB_follow) rfl ⟨rfl, rfl⟩ (by decide +kernel) ⟨Nat.le_of_ble_eq_true rfl, Nat.le_of_ble_eq_true rfl⟩ (hK.sub [0, 1] rfl) hP hD hS hA 0 5 rfl rfl ow_0 rfl hl.1 rfl (Nat.le_of_ble_eq_true rfl) ⟨Nat.zero_le _, Nat.zero_le _⟩ d_La_follow_5 (fun H locs hP hD hS => ?_)
  refine lv_i2l hx hb d_La_follow_8 rfl ?_
  refine va_last hx hb hK hP hD hS 0 2 rfl rfl (vp_in_nI (n := 0) (by decide) (by decide)) d_La_follow_9 (fun H locs hP hD hS => ?_)
  have hP : va_P D vwCl (lo cJ o (vp_updL fj 0 (Int32.toInt64 (σ 20 0 0 + 1))) ++ ow cI cL ad (u3 (u3 σ 19 0 j (σ 19 0 j ||| (1 <<< (y &&& 31)))) 20 0 0 (σ 20 0 0 + 1))) H := hP
  have hD : va_D A (lo cJ o (vp_updL fj 0 (Int32.toInt64 (σ 20 0 0 + 1))) ++ ow cI cL ad (u3 (u3 σ 19 0 j (σ 19 0 j ||| (1 <<< (y &&& 31)))) 20 0 0 (σ 20 0 0 + 1))) := hD
  refine lv_goto (tgt := 21) hx hb d_La_follow_10 (by decide) ?_
  refine lv_iconst (v := 0) hx hb d_La_follow_21 (by decide) ?_
  exact ok_iretW F hr hlk ⟨Nat.le_of_ble_eq_true rfl, Nat.le_of_ble_eq_true rfl⟩ hP hD hS rfl d_La_follow_22
set_option maxHeartbeats 4000000 in
set_option maxRecDepth 100000 in
theorem w_follow_1 (hfl : l.flags = pinnedFlags ++ [noTraceFlag]) (σ : oS) {x : Int32} {y : Int32} (h0 : ¬ ob_p σ x y = 0) : ok_MW l y_La_follow (Cond.codeWith y_La_follow b_La_follow 5 (some .int) [((0 : Nat), (10 : Nat), (13 : Nat), (24 : Nat)), ((0 : Nat), (10 : Nat), (17 : Nat), (15 : Nat))] :: tt) { frames := 7, cells := 1, slots := 6, locals := 104 } D vwCl (lt3 cI cL cJ) (lo cJ o fj ++ ow cI cL ad σ) (lo cJ o fj ++ ow cI cL ad σ) [.ref (ad 0), .int x, .int y, .ref o] (some (.int 1)) := by
  refine ok_startW (cc := b_La_follow) (own := RLa) (maxL := 5) (ret := some .int) (hh := [((0 : Nat), (10 : Nat), (13 : Nat), (24 : Nat)), ((0 : Nat), (10 : Nat), (17 : Nat), (15 : Nat))]) (by decide +kernel) rfl rfl (Nat.le_of_ble_eq_true rfl) ?_
  intro p e s m below meth c A F hr hlk hh hZ hA hP hK hD hS ls hl
  have hl : lv_has ls 5 [(0, .ref (ad 0)), (1, .int x), (2, .int y), (3, .ref o)] := hl
  have hx := F.1
  have hb := F.2.1
  refine lv_aload_n hx hb d_La_follow_0 rfl (lv_at hl 3 rfl) ?_
  refine lv_iconst (v := 0) hx hb d_La_follow_1 (by decide) ?_
  refine lv_aload_n hx hb d_La_follow_2 rfl (lv_at hl 0 rfl) ?_
  refine lv_iload_n hx hb d_La_follow_3 rfl (lv_at hl 1 rfl) ?_
  refine lv_iload_n hx hb d_La_follow_4 rfl (lv_at hl 2 rfl) ?_
  refine ok_VT (As := [.int x, .int y]) (rest := [.int 0, .ref o]) (tgt := 13) F (c_OB_follow_1 hfl σ h0) 2 (tt_V (tt3 99 rfl rfl) i_OB_follow l_OB_follow in9_OB k_OB_follow) rfl ⟨rfl, rfl⟩ (by decide +kernel) ⟨Nat.le_of_ble_eq_true rfl, Nat.le_of_ble_eq_true rfl⟩ (hK.sub [0, 1] rfl) (ok_right hP) (fun U hU hW9 => hZ.to hW9 (fun a c hc _ => by rw [hU]; exact hc)) 0 5 rfl rfl ow_0 rfl hl.1 rfl (Nat.le_of_ble_eq_true rfl) ⟨Nat.le_refl _, Nat.le_refl _⟩ d_La_follow_5 (by rw [hh]; exact ⟨Nat.zero_le _, Nat.lt_of_lt_of_le (Nat.lt_succ_self _) (Nat.le_of_ble_eq_true rfl), (fun z => by cases z), Or.inl ⟨(F.2.2.2.2 _ (List.mem_cons_of_mem _ (tt2 152 rfl rfl))), hZ.2.1 _ (List.mem_of_getElem? (i := 2) rfl), rfl⟩⟩) (fun H1 a h1 h2 => ?_)
  have hP := ok_grow h1 h2 hP
  have hS := ok_growS h1 h2 hS
  refine lv_astore (lv' := [(4, .ref a), (0, .ref (ad 0)), (1, .int x), (2, .int y), (3, .ref o)]) hx hb d_La_follow_13 hl (by decide) rfl (fun ls hl => ?_)
  refine lv_iconst (v := 1) hx hb d_La_follow_15 (by decide) ?_
  exact ok_iretW F hr hlk ⟨Nat.le_of_ble_eq_true rfl, Nat.le_of_ble_eq_true rfl⟩ hP hD hS rfl d_La_follow_16
set_option maxHeartbeats 4000000 in
set_option maxRecDepth 100000 in
theorem w_follow_2 (hfl : l.flags = pinnedFlags ++ [noTraceFlag]) (σ : oS) {x : Int32} {j : Nat} (hj : x = nI j) (hj9 : j < 5) {y : Int32} (h1 : ob_p σ x y = 0) (h0 : ¬ (σ 20 0 0 < 10 ∧ fo_b (σ 19 0 j) y = 0)) : ok_MW l y_La_follow (Cond.codeWith y_La_follow b_La_follow 5 (some .int) [((0 : Nat), (10 : Nat), (13 : Nat), (24 : Nat)), ((0 : Nat), (10 : Nat), (17 : Nat), (15 : Nat))] :: tt) { frames := 7, cells := 1, slots := 6, locals := 104 } D vwCl (lt3 cI cL cJ) (lo cJ o fj ++ ow cI cL ad σ) (lo cJ o fj ++ ow cI cL ad σ) [.ref (ad 0), .int x, .int y, .ref o] (some (.int 2)) := by
  refine ok_startW (cc := b_La_follow) (own := RLa) (maxL := 5) (ret := some .int) (hh := [((0 : Nat), (10 : Nat), (13 : Nat), (24 : Nat)), ((0 : Nat), (10 : Nat), (17 : Nat), (15 : Nat))]) (by decide +kernel) rfl rfl (Nat.le_of_ble_eq_true rfl) ?_
  intro p e s m below meth c A F hr hlk hh hZ hA hP hK hD hS ls hl
  have hl : lv_has ls 5 [(0, .ref (ad 0)), (1, .int x), (2, .int y), (3, .ref o)] := hl
  have hx := F.1
  have hb := F.2.1
  refine lv_aload_n hx hb d_La_follow_0 rfl (lv_at hl 3 rfl) ?_
  refine lv_iconst (v := 0) hx hb d_La_follow_1 (by decide) ?_
  refine lv_aload_n hx hb d_La_follow_2 rfl (lv_at hl 0 rfl) ?_
  refine lv_iload_n hx hb d_La_follow_3 rfl (lv_at hl 1 rfl) ?_
  refine lv_iload_n hx hb d_La_follow_4 rfl (lv_at hl 2 rfl) ?_
  refine ok_VT (As := [.int x, .int y]) (rest := [.int 0, .ref o]) (tgt := 17) F (c_OB_follow_2 hfl σ hj hj9 h1 h0) 2 (tt_V (tt3 99 rfl rfl) i_OB_follow l_OB_follow in9_OB k_OB_follow) rfl ⟨rfl, rfl⟩ (by decide +kernel) ⟨Nat.le_of_ble_eq_true rfl, Nat.le_of_ble_eq_true rfl⟩ (hK.sub [0, 1] rfl) (ok_right hP) (fun U hU hW9 => hZ.to hW9 (fun a c hc _ => by rw [hU]; exact hc)) 0 5 rfl rfl ow_0 rfl hl.1 rfl (Nat.le_of_ble_eq_true rfl) ⟨Nat.le_refl _, Nat.le_refl _⟩ d_La_follow_5 (by rw [hh]; exact ⟨Nat.zero_le _, Nat.lt_of_lt_of_le (Nat.lt_succ_self _) (Nat.le_of_ble_eq_true rfl), (fun z => by cases z), Or.inr ⟨"java/lang/IndexOutOfBoundsException", (F.2.2.2.2 _ (List.mem_cons_of_mem _ (tt2 152 rfl rfl))), hZ.2.2.1 (_, _) (List.mem_of_getElem? (i := 4) rfl), ⟨Nat.zero_le _, Nat.lt_of_lt_of_le (Nat.lt_succ_self _) (Nat.le_of_ble_eq_true rfl), (fun z => by cases z), Or.inl ⟨(F.2.2.2.2 _ (List.mem_cons_of_mem _ (tt2 1 rfl rfl))), hZ.2.1 _ (List.mem_of_getElem? (i := 1) rfl), rfl⟩⟩⟩⟩) (fun H1 a h1 h2 => ?_)
  have hP := ok_grow h1 h2 hP
  have hS := ok_growS h1 h2 hS
  refine lv_astore (lv' := [(4, .ref a), (0, .ref (ad 0)), (1, .int x), (2, .int y), (3, .ref o)]) hx hb d_La_follow_17 hl (by decide) rfl (fun ls hl => ?_)
  refine lv_iconst (v := 2) hx hb d_La_follow_19 (by decide) ?_
  exact ok_iretW F hr hlk ⟨Nat.le_of_ble_eq_true rfl, Nat.le_of_ble_eq_true rfl⟩ hP hD hS rfl d_La_follow_20
set_option maxHeartbeats 4000000 in
set_option maxRecDepth 100000 in
theorem w_chain_0 (σ : oS) {n : Nat} (hn : σ 2 0 0 = nI n) (hn9 : n ≤ 5) {x : Int32} {k : Nat} (hk : x = nI k) (hk9 : k < 2147483648) (h1 : 0 ≤ x) : ok_MW l y_La_chain (Cond.codeWith y_La_chain b_La_chain 4 (some .int) [((0 : Nat), (9 : Nat), (12 : Nat), (24 : Nat))] :: tt) { frames := 9, cells := 1, slots := 6, locals := 229 } D vwCl (lt3 cI cL cJ) (lo cJ o fj ++ ow cI cL ad σ) (lo cJ o (vp_updL fj 0 (Int32.toInt64 (if n ≤ k then -1 else fo_a σ (k + 1) 0 ((1 <<< (σ 2 0 0 &&& 31)) - 1) (-1)))) ++ ow cI cL ad σ) [.ref (ad 0), .int x, .ref o] (some (.int 0)) := by
  refine ok_startW (cc := b_La_chain) (own := RLa) (maxL := 4) (ret := some .int) (hh := [((0 : Nat), (9 : Nat), (12 : Nat), (24 : Nat))]) (by decide +kernel) rfl rfl (Nat.le_of_ble_eq_true rfl) ?_
  intro p e s m below meth c A F hr hlk hh hZ hA hP hK hD hS ls hl
  have hl : lv_has ls 4 [(0, .ref (ad 0)), (1, .int x), (2, .ref o)] := hl
  have hx := F.1
  have hb := F.2.1
  refine lv_aload_n hx hb d_La_chain_0 rfl (lv_at hl 2 rfl) ?_
  refine lv_iconst (v := 0) hx hb d_La_chain_1 (by decide) ?_
  refine lv_aload_n hx hb d_La_chain_2 rfl (lv_at hl 0 rfl) ?_
  refine lv_iload_n hx hb d_La_chain_3 rfl (lv_at hl 1 rfl) ?_
  refine ok_VR (As := [.int x]) (rest := [.int 0, .ref o]) F (c_OB_chain σ hn hn9 hk hk9 h1) 1 (tt_V (tt3 123 rfl rfl) i_OB_chain l_OB_chain in9_OB k_OB_chain) rfl ⟨rfl, rfl⟩ (by decide +kernel) ⟨Nat.le_of_ble_eq_true rfl, Nat.le_of_ble_eq_true rfl⟩ (hK.sub [0, 1] rfl) (ok_right hP) 0 5 rfl rfl ow_0 rfl hl.1 rfl (Nat.le_of_ble_eq_true rfl) ⟨Nat.zero_le _, Nat.zero_le _⟩ d_La_chain_4 ?_
  refine lv_i2l hx hb d_La_chain_7 rfl ?_
  refine va_last hx hb hK hP hD hS 0 2 rfl rfl (vp_in_nI (n := 0) (by decide) (by decide)) d_La_chain_8 (fun H locs hP hD hS => ?_)
  have hP : va_P D vwCl (lo cJ o (vp_updL fj 0 (Int32.toInt64 (if n ≤ k then -1 else fo_a σ (k + 1) 0 ((1 <<< (σ 2 0 0 &&& 31)) - 1) (-1)))) ++ ow cI cL ad σ) H := hP
  have hD : va_D A (lo cJ o (vp_updL fj 0 (Int32.toInt64 (if n ≤ k then -1 else fo_a σ (k + 1) 0 ((1 <<< (σ 2 0 0 &&& 31)) - 1) (-1)))) ++ ow cI cL ad σ) := hD
  refine lv_goto (tgt := 15) hx hb d_La_chain_9 (by decide) ?_
  refine lv_iconst (v := 0) hx hb d_La_chain_15 (by decide) ?_
  exact ok_iretW F hr hlk ⟨Nat.le_of_ble_eq_true rfl, Nat.le_of_ble_eq_true rfl⟩ hP hD hS rfl d_La_chain_16
set_option maxHeartbeats 4000000 in
set_option maxRecDepth 100000 in
theorem w_chain_1 (hfl : l.flags = pinnedFlags ++ [noTraceFlag]) (σ : oS) {x : Int32} (h0 : ¬ 0 ≤ x) : ok_MW l y_La_chain (Cond.codeWith y_La_chain b_La_chain 4 (some .int) [((0 : Nat), (9 : Nat), (12 : Nat), (24 : Nat))] :: tt) { frames := 7, cells := 1, slots := 6, locals := 103 } D vwCl (lt3 cI cL cJ) (lo cJ o fj ++ ow cI cL ad σ) (lo cJ o fj ++ ow cI cL ad σ) [.ref (ad 0), .int x, .ref o] (some (.int 1)) := by
  refine ok_startW (cc := b_La_chain) (own := RLa) (maxL := 4) (ret := some .int) (hh := [((0 : Nat), (9 : Nat), (12 : Nat), (24 : Nat))]) (by decide +kernel) rfl rfl (Nat.le_of_ble_eq_true rfl) ?_
  intro p e s m below meth c A F hr hlk hh hZ hA hP hK hD hS ls hl
  have hl : lv_has ls 4 [(0, .ref (ad 0)), (1, .int x), (2, .ref o)] := hl
  have hx := F.1
  have hb := F.2.1
  refine lv_aload_n hx hb d_La_chain_0 rfl (lv_at hl 2 rfl) ?_
  refine lv_iconst (v := 0) hx hb d_La_chain_1 (by decide) ?_
  refine lv_aload_n hx hb d_La_chain_2 rfl (lv_at hl 0 rfl) ?_
  refine lv_iload_n hx hb d_La_chain_3 rfl (lv_at hl 1 rfl) ?_
  refine ok_VT (As := [.int x]) (rest := [.int 0, .ref o]) (tgt := 12) F (c_OB_chain_1 hfl σ h0) 1 (tt_V (tt3 123 rfl rfl) i_OB_chain l_OB_chain in9_OB k_OB_chain) rfl ⟨rfl, rfl⟩ (by decide +kernel) ⟨Nat.le_of_ble_eq_true rfl, Nat.le_of_ble_eq_true rfl⟩ (hK.sub [0, 1] rfl) (ok_right hP) (fun U hU hW9 => hZ.to hW9 (fun a c hc _ => by rw [hU]; exact hc)) 0 5 rfl rfl ow_0 rfl hl.1 rfl (Nat.le_of_ble_eq_true rfl) ⟨Nat.le_refl _, Nat.le_refl _⟩ d_La_chain_4 (by rw [hh]; exact ⟨Nat.zero_le _, Nat.lt_of_lt_of_le (Nat.lt_succ_self _) (Nat.le_of_ble_eq_true rfl), (fun z => by cases z), Or.inl ⟨(F.2.2.2.2 _ (List.mem_cons_of_mem _ (tt2 152 rfl rfl))), hZ.2.1 _ (List.mem_of_getElem? (i := 2) rfl), rfl⟩⟩) (fun H1 a h1 h2 => ?_)
  have hP := ok_grow h1 h2 hP
  have hS := ok_growS h1 h2 hS
  refine lv_astore_n (lv' := [(3, .ref a), (0, .ref (ad 0)), (1, .int x), (2, .ref o)]) hx hb d_La_chain_12 rfl hl (by decide) rfl (fun ls hl => ?_)
  refine lv_iconst (v := 1) hx hb d_La_chain_13 (by decide) ?_
  exact ok_iretW F hr hlk ⟨Nat.le_of_ble_eq_true rfl, Nat.le_of_ble_eq_true rfl⟩ hP hD hS rfl d_La_chain_14
end
