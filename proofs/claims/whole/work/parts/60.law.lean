section
variable {p : Program} {l : Launch} {e : Env} {R : Room} {s : State} {m : MethodId} {args : Array Value} {below : List Frame} {meth : Method} {c : Code} {H : Heap} {locs : List Loc} {cells slots : Nat} {Q : State → Prop}
variable {ls : Array Slot} {D : va_G} {cI cL cZ cJ : ClassId} {ad am : Nat → Nat} {o : Nat} {A : Nat → Prop} {cw : Cond}

abbrev lt4 (cI cL cZ cJ : ClassId) : List (ClassId × FieldType) := [(cI, .int), (cL, .object "OrderBounds$Line"), (cZ, .boolean), (cJ, .long)]
theorem lw_sld {cc : ByteArray} {pc nL : Nat} {Ts : List Cond} {own : String} {b L : Nat} {xs : Nat → Int32} {H0 : Heap} {rest : List Value} (F : CallFix p m c cc nL s args Ts own) (hX : va_X b L xs s H0) (hbl : b < H0.size) (hbA : ¬ A b) (hS : va_S A H0 H locs) {x : Int32} {k : Nat} (hx : x = nI k) (hk : k < L) (hL : L ≤ 2048) (hdg : decode cc pc = .ok (.iaload, 1))
    (kk : W p l e R s m args below meth c H locs cells slots Q (F0 m (pc + 1) ls (.int (xs k) :: rest))) : W p l e R s m args below meth c H locs cells slots Q (F0 m pc ls (.int x :: .ref b :: rest)) := by
  subst hx
  refine va_sld F.1 F.2.1 hX hbl hbA hS (vp_in_nI hk (by omega)) hdg ?_
  rw [nI_clamp (by omega)]
  exact kk
theorem lw_c0 : (0 : Int32).toNatClampNeg = 0 := by decide +kernel
def rw9 (r : Room) : Prop := r.cells = 1 ∧ r.slots = 6 ∧ r.frames ≤ 1000 ∧ r.locals ≤ 50000
def rm9 (r : Room) : Prop := r.cells = 0 ∧ r.slots = 0 ∧ r.frames ≤ 1000 ∧ r.locals ≤ 50000
set_option maxHeartbeats 4000000 in
set_option maxRecDepth 100000 in
theorem lb_column {b L j : Nat} {xs : Nat → Int32} {σ τ μ ν : oS} {fj fk : Nat → Int64} {k : Int32} {v : Int32} (F : CallFix p m c code 7 s args (cw :: tt) RLa) (hK : va_K D vwCl (lt4 cI cL cZ cJ) s) (hZ : th_Z s) (hX : va_X b L xs s s.heap) (hbl : b < s.heap.size) (hA : ∀ q, s.heap.size ≤ q ↔ A q) (hL : L ≤ 2048) (hj : 4 * j + 4 ≤ L) (hR : cells + 1 ≤ R.cells ∧ slots + 6 ≤ R.slots ∧ 1001 ≤ R.frames ∧ 51000 ≤ R.locals)
    {rw : Room} (hrw : rw9 rw) (hw : ok_MW l y_La_column (Cond.codeWith y_La_column b_La_column 5 (some .int) [((0 : Nat), (10 : Nat), (13 : Nat), (13 : Nat)), ((0 : Nat), (10 : Nat), (17 : Nat), (15 : Nat))] :: tt) rw D vwCl (lt3 cI cL cJ) (lo cJ o fj ++ ow cI cL ad σ) (lo cJ o fk ++ ow cI cL ad τ) [.ref (ad 0), .int (xs (4 * j + 1)), .int (xs (4 * j + 2)), .ref o] (some (.int k)))
    {rm : Room} (hrm : rm9 rm) (hm : ok_MM l y_Mo_column (Cond.code y_Mo_column b_Mo_column 3 (some .int) :: tt) rm D vwCl (mt cI cZ) (mw cI cZ am μ) (mw cI cZ am ν) [.ref (am 0), .int (xs (4 * j + 1)), .int (xs (4 * j + 2))] (some (.int v)))
    (hk : ν 0 0 0 = k)
    (hv : k = 0 → fk 0 = Int32.toInt64 v)
    (hP : va_P D vwCl (mw cI cZ am μ ++ (lo cJ o fj ++ ow cI cL ad σ)) H) (hD : va_D A (mw cI cZ am μ ++ (lo cJ o fj ++ ow cI cL ad σ))) (hS : va_S A s.heap H locs) (hl : lv_has ls 7 [(4, .int (nI (4 * j))), (3, .ref o), (2, .ref (am 0)), (1, .ref (ad 0)), (0, .ref b)])
    (kk : ∀ (H : Heap) (locs : List Loc) (ls : Array Slot), va_P D vwCl (mw cI cZ am ν ++ (lo cJ o fk ++ ow cI cL ad τ)) H → va_D A (mw cI cZ am ν ++ (lo cJ o fk ++ ow cI cL ad τ)) → va_S A s.heap H locs → lv_has ls 7 [(4, .int (nI (4 * j))), (3, .ref o), (2, .ref (am 0)), (1, .ref (ad 0)), (0, .ref b)] → W p l e R s m args below meth c H locs (cells + 1) (slots + 6) Q (F0 m 812 ls [])) : W p l e R s m args below meth c H locs cells slots Q (F0 m 108 ls []) := by
  have hx := F.1
  have hb := F.2.1
  have hA9 : ∀ q, s.heap.size ≤ q → A q := fun q h => (hA q).mp h
  have hbA : ¬ A b := fun h => absurd ((hA b).mpr h) (Nat.not_le.mpr hbl)
  obtain ⟨hR1, hR2, hR3, hR4⟩ := hR
  obtain ⟨hm1, hm2, hm3, hm4⟩ := hrm
  obtain ⟨hw1, hw2, hw3, hw4⟩ := hrw
  have hZ9 : ∀ {H9 : Heap} {locs9 : List Loc}, va_S A s.heap H9 locs9 → ∀ U : State, U.heap = H9 → s.WarmedH U.vm → th_Z U := fun hS9 U hU hW9 => hZ.to hW9 (fun a c9 hc _ => by
    have ha := (Array.getElem?_eq_some_iff.mp hc).1
    rw [hU, hS9.2.1 a ha (fun h => absurd ((hA a).mpr h) (Nat.not_le.mpr ha))]; exact hc)
  refine lv_aload_n hx hb d_La_law_108 rfl (lv_at hl 3 rfl) ?_
  refine lv_aload_n hx hb d_La_law_109 rfl (lv_at hl 4 rfl) ?_
  refine lv_iload hx hb d_La_law_110 (lv_at hl 0 rfl) ?_
  refine lv_iconst (v := 1) hx hb d_La_law_112 (by decide) ?_
  refine lv_iadd hx hb d_La_law_113 ?_
  refine lw_sld F hX hbl hbA hS (k := 4 * j + 1) (nI_add (4 * j) 1) (by omega) hL d_La_law_114 ?_
  refine lv_aload_n hx hb d_La_law_115 rfl (lv_at hl 4 rfl) ?_
  refine lv_iload hx hb d_La_law_116 (lv_at hl 0 rfl) ?_
  refine lv_iconst (v := 2) hx hb d_La_law_118 (by decide) ?_
  refine lv_iadd hx hb d_La_law_119 ?_
  refine lw_sld F hX hbl hbA hS (k := 4 * j + 2) (nI_add (4 * j) 2) (by omega) hL d_La_law_120 ?_
  refine lv_aload_n hx hb d_La_law_121 rfl (lv_at hl 1 rfl) ?_
  refine ok_SWF (bytes := b_La_column) (maxL := 5) (wr := mw cI cZ am μ) (As := [.ref (ad 0), .int (xs (4 * j + 1)), .int (xs (4 * j + 2)), .ref o]) (rest := []) F hw 4 (List.forall_mem_cons.mpr ⟨k_La_column, fun _ h => h⟩) rfl (tt1 237 rfl rfl) s_La_column in9_La ⟨hw1, hw2⟩ (by decide +kernel) ⟨by omega, by omega⟩ (hK.sub [0, 1, 3] rfl) (hZ9 hS) hP hD hS hA9 rfl hl.1 rfl (Nat.zero_le _) ⟨hR1, hR2⟩ d_La_law_122 (fun H locs hP hD hS => ?_)
  refine lv_istore (lv' := [(5, .int k), (4, .int (nI (4 * j))), (3, .ref o), (2, .ref (am 0)), (1, .ref (ad 0)), (0, .ref b)]) hx hb d_La_law_125 hl (by decide) rfl (fun ls hl => ?_)
  refine lv_aload_n hx hb d_La_law_127 rfl (lv_at hl 3 rfl) ?_
  refine lv_aload_n hx hb d_La_law_128 rfl (lv_at hl 5 rfl) ?_
  refine lv_iload hx hb d_La_law_129 (lv_at hl 1 rfl) ?_
  refine lv_iconst (v := 1) hx hb d_La_law_131 (by decide) ?_
  refine lv_iadd hx hb d_La_law_132 ?_
  refine lw_sld F hX hbl hbA hS (k := 4 * j + 1) (nI_add (4 * j) 1) (by omega) hL d_La_law_133 ?_
  refine lv_aload_n hx hb d_La_law_134 rfl (lv_at hl 5 rfl) ?_
  refine lv_iload hx hb d_La_law_135 (lv_at hl 1 rfl) ?_
  refine lv_iconst (v := 2) hx hb d_La_law_137 (by decide) ?_
  refine lv_iadd hx hb d_La_law_138 ?_
  refine lw_sld F hX hbl hbA hS (k := 4 * j + 2) (nI_add (4 * j) 2) (by omega) hL d_La_law_139 ?_
  have hP := ok_swapP hP
  have hD := ok_swapD hD
  refine ok_VMF (wr := lo cJ o fk ++ ow cI cL ad τ) (As := [.int (xs (4 * j + 1)), .int (xs (4 * j + 2))]) (rest := []) F hm 2 (tt_V (tt3 223 rfl rfl) i_Mo_column l_Mo_column in9_Mo k_Mo_column) rfl ⟨hm1, hm2⟩ (by decide +kernel) ⟨by omega, by omega⟩ (hK.sub [0, 2] rfl) hP hD hS hA9 0 6 rfl rfl mw_0 rfl hl.1 rfl (by first | exact Nat.zero_le _ | exact Nat.le_of_ble_eq_true rfl) ⟨by omega, by omega⟩ d_La_law_140 (fun H locs hP hD hS => ?_)
  have hP := ok_swapP hP
  have hD := ok_swapD hD
  refine lv_istore (lv' := [(6, .int v), (5, .int k), (4, .int (nI (4 * j))), (3, .ref o), (2, .ref (am 0)), (1, .ref (ad 0)), (0, .ref b)]) hx hb d_La_law_143 hl (by decide) rfl (fun ls hl => ?_)
  refine lv_aload_n hx hb d_La_law_145 rfl (lv_at hl 4 rfl) ?_
  refine x_Mo_thrown (ad := am) (cI := cI) (cZ := cZ) (D := D) F (tt3 219 rfl rfl) ⟨by omega, by omega⟩ (hK.sub [0, 2] rfl) (ok_left hP) hl.1 (Nat.zero_le _) ⟨by omega, by omega⟩ d_La_law_146 ?_
  refine lv_iload hx hb d_La_law_149 (lv_at hl 1 rfl) ?_
  refine lv_icmp_eq (tgt := 156) hx hb d_La_law_151 (by decide) (fun _ => ?_) (fun c9 => absurd (by first | exact hk | exact hk.symm | rfl) c9)
  refine lv_iload hx hb d_La_law_156 (lv_at hl 1 rfl) ?_
  refine lv_if_ne (tgt := 173) hx hb d_La_law_158 (by decide) (fun _ => ?_) (fun c8 => ?_)
  · refine lv_goto (tgt := 812) hx hb d_La_law_173 (by decide) ?_
    exact kk H locs ls hP hD hS (lv_sub hl [2, 3, 4, 5, 6] rfl)
  refine lv_aload_n hx hb d_La_law_161 rfl (lv_at hl 3 rfl) ?_
  refine lv_iconst (v := 0) hx hb d_La_law_162 (by decide) ?_
  refine va_lald hx hb hK (ok_left (ok_right hP)) 0 3 rfl rfl (vp_in_nI (n := 0) (by decide) (by decide)) d_La_law_163 ?_
  rw [lw_c0]
  refine lv_iload hx hb d_La_law_164 (lv_at hl 0 rfl) ?_
  refine lv_i2l hx hb d_La_law_166 rfl ?_
  refine W.lcmp hx hb d_La_law_167 ?_
  refine lv_if_eq (tgt := 173) hx hb d_La_law_168 (by decide) (fun _ => ?_) (fun c9 => absurd ((lg_cmp_eq _ _).mpr (hv c8)) c9)
  refine lv_goto (tgt := 812) hx hb d_La_law_173 (by decide) ?_
  exact kk H locs ls hP hD hS (lv_sub hl [2, 3, 4, 5, 6] rfl)
set_option maxHeartbeats 4000000 in
set_option maxRecDepth 100000 in
theorem lb_row {b L j : Nat} {xs : Nat → Int32} {σ τ μ ν : oS} {fj fk : Nat → Int64} {k : Int32} {v : Int32} (F : CallFix p m c code 7 s args (cw :: tt) RLa) (hK : va_K D vwCl (lt4 cI cL cZ cJ) s) (hZ : th_Z s) (hX : va_X b L xs s s.heap) (hbl : b < s.heap.size) (hA : ∀ q, s.heap.size ≤ q ↔ A q) (hL : L ≤ 2048) (hj : 4 * j + 4 ≤ L) (hR : cells + 1 ≤ R.cells ∧ slots + 6 ≤ R.slots ∧ 1001 ≤ R.frames ∧ 51000 ≤ R.locals)
    {rw : Room} (hrw : rw9 rw) (hw : ok_MW l y_La_row (Cond.codeWith y_La_row b_La_row 5 (some .int) [((0 : Nat), (10 : Nat), (13 : Nat), (13 : Nat)), ((0 : Nat), (10 : Nat), (17 : Nat), (15 : Nat))] :: tt) rw D vwCl (lt3 cI cL cJ) (lo cJ o fj ++ ow cI cL ad σ) (lo cJ o fk ++ ow cI cL ad τ) [.ref (ad 0), .int (xs (4 * j + 1)), .int (xs (4 * j + 2)), .ref o] (some (.int k)))
    {rm : Room} (hrm : rm9 rm) (hm : ok_MM l y_Mo_row (Cond.code y_Mo_row b_Mo_row 3 (some .int) :: tt) rm D vwCl (mt cI cZ) (mw cI cZ am μ) (mw cI cZ am ν) [.ref (am 0), .int (xs (4 * j + 1)), .int (xs (4 * j + 2))] (some (.int v)))
    (hk : ν 0 0 0 = k)
    (hv : k = 0 → fk 0 = Int32.toInt64 v)
    (hP : va_P D vwCl (mw cI cZ am μ ++ (lo cJ o fj ++ ow cI cL ad σ)) H) (hD : va_D A (mw cI cZ am μ ++ (lo cJ o fj ++ ow cI cL ad σ))) (hS : va_S A s.heap H locs) (hl : lv_has ls 7 [(4, .int (nI (4 * j))), (3, .ref o), (2, .ref (am 0)), (1, .ref (ad 0)), (0, .ref b)])
    (kk : ∀ (H : Heap) (locs : List Loc) (ls : Array Slot), va_P D vwCl (mw cI cZ am ν ++ (lo cJ o fk ++ ow cI cL ad τ)) H → va_D A (mw cI cZ am ν ++ (lo cJ o fk ++ ow cI cL ad τ)) → va_S A s.heap H locs → lv_has ls 7 [(4, .int (nI (4 * j))), (3, .ref o), (2, .ref (am 0)), (1, .ref (ad 0)), (0, .ref b)] → W p l e R s m args below meth c H locs (cells + 1) (slots + 6) Q (F0 m 812 ls [])) : W p l e R s m args below meth c H locs cells slots Q (F0 m 176 ls []) := by
  have hx := F.1
  have hb := F.2.1
  have hA9 : ∀ q, s.heap.size ≤ q → A q := fun q h => (hA q).mp h
  have hbA : ¬ A b := fun h => absurd ((hA b).mpr h) (Nat.not_le.mpr hbl)
  obtain ⟨hR1, hR2, hR3, hR4⟩ := hR
  obtain ⟨hm1, hm2, hm3, hm4⟩ := hrm
  obtain ⟨hw1, hw2, hw3, hw4⟩ := hrw
  have hZ9 : ∀ {H9 : Heap} {locs9 : List Loc}, va_S A s.heap H9 locs9 → ∀ U : State, U.heap = H9 → s.WarmedH U.vm → th_Z U := fun hS9 U hU hW9 => hZ.to hW9 (fun a c9 hc _ => by
    have ha := (Array.getElem?_eq_some_iff.mp hc).1
    rw [hU, hS9.2.1 a ha (fun h => absurd ((hA a).mpr h) (Nat.not_le.mpr ha))]; exact hc)
  refine lv_aload_n hx hb d_La_law_176 rfl (lv_at hl 3 rfl) ?_
  refine lv_aload_n hx hb d_La_law_177 rfl (lv_at hl 4 rfl) ?_
  refine lv_iload hx hb d_La_law_178 (lv_at hl 0 rfl) ?_
  refine lv_iconst (v := 1) hx hb d_La_law_180 (by decide) ?_
  refine lv_iadd hx hb d_La_law_181 ?_
  refine lw_sld F hX hbl hbA hS (k := 4 * j + 1) (nI_add (4 * j) 1) (by omega) hL d_La_law_182 ?_
  refine lv_aload_n hx hb d_La_law_183 rfl (lv_at hl 4 rfl) ?_
  refine lv_iload hx hb d_La_law_184 (lv_at hl 0 rfl) ?_
  refine lv_iconst (v := 2) hx hb d_La_law_186 (by decide) ?_
  refine lv_iadd hx hb d_La_law_187 ?_
  refine lw_sld F hX hbl hbA hS (k := 4 * j + 2) (nI_add (4 * j) 2) (by omega) hL d_La_law_188 ?_
  refine lv_aload_n hx hb d_La_law_189 rfl (lv_at hl 1 rfl) ?_
  refine ok_SWF (bytes := b_La_row) (maxL := 5) (wr := mw cI cZ am μ) (As := [.ref (ad 0), .int (xs (4 * j + 1)), .int (xs (4 * j + 2)), .ref o]) (rest := []) F hw 4 (List.forall_mem_cons.mpr ⟨k_La_row, fun _ h => h⟩) rfl (tt2 112 rfl rfl) s_La_row in9_La ⟨hw1, hw2⟩ (by decide +kernel) ⟨by omega, by omega⟩ (hK.sub [0, 1, 3] rfl) (hZ9 hS) hP hD hS hA9 rfl hl.1 rfl (Nat.zero_le _) ⟨hR1, hR2⟩ d_La_law_190 (fun H locs hP hD hS => ?_)
  refine lv_istore (lv' := [(5, .int k), (4, .int (nI (4 * j))), (3, .ref o), (2, .ref (am 0)), (1, .ref (ad 0)), (0, .ref b)]) hx hb d_La_law_193 hl (by decide) rfl (fun ls hl => ?_)
  refine lv_aload_n hx hb d_La_law_195 rfl (lv_at hl 3 rfl) ?_
  refine lv_aload_n hx hb d_La_law_196 rfl (lv_at hl 5 rfl) ?_
  refine lv_iload hx hb d_La_law_197 (lv_at hl 1 rfl) ?_
  refine lv_iconst (v := 1) hx hb d_La_law_199 (by decide) ?_
  refine lv_iadd hx hb d_La_law_200 ?_
  refine lw_sld F hX hbl hbA hS (k := 4 * j + 1) (nI_add (4 * j) 1) (by omega) hL d_La_law_201 ?_
  refine lv_aload_n hx hb d_La_law_202 rfl (lv_at hl 5 rfl) ?_
  refine lv_iload hx hb d_La_law_203 (lv_at hl 1 rfl) ?_
  refine lv_iconst (v := 2) hx hb d_La_law_205 (by decide) ?_
  refine lv_iadd hx hb d_La_law_206 ?_
  refine lw_sld F hX hbl hbA hS (k := 4 * j + 2) (nI_add (4 * j) 2) (by omega) hL d_La_law_207 ?_
  have hP := ok_swapP hP
  have hD := ok_swapD hD
  refine ok_VMF (wr := lo cJ o fk ++ ow cI cL ad τ) (As := [.int (xs (4 * j + 1)), .int (xs (4 * j + 2))]) (rest := []) F hm 2 (tt_V (tt3 238 rfl rfl) i_Mo_row l_Mo_row in9_Mo k_Mo_row) rfl ⟨hm1, hm2⟩ (by decide +kernel) ⟨by omega, by omega⟩ (hK.sub [0, 2] rfl) hP hD hS hA9 0 6 rfl rfl mw_0 rfl hl.1 rfl (by first | exact Nat.zero_le _ | exact Nat.le_of_ble_eq_true rfl) ⟨by omega, by omega⟩ d_La_law_208 (fun H locs hP hD hS => ?_)
  have hP := ok_swapP hP
  have hD := ok_swapD hD
  refine lv_istore (lv' := [(6, .int v), (5, .int k), (4, .int (nI (4 * j))), (3, .ref o), (2, .ref (am 0)), (1, .ref (ad 0)), (0, .ref b)]) hx hb d_La_law_211 hl (by decide) rfl (fun ls hl => ?_)
  refine lv_aload_n hx hb d_La_law_213 rfl (lv_at hl 4 rfl) ?_
  refine x_Mo_thrown (ad := am) (cI := cI) (cZ := cZ) (D := D) F (tt3 219 rfl rfl) ⟨by omega, by omega⟩ (hK.sub [0, 2] rfl) (ok_left hP) hl.1 (Nat.zero_le _) ⟨by omega, by omega⟩ d_La_law_214 ?_
  refine lv_iload hx hb d_La_law_217 (lv_at hl 1 rfl) ?_
  refine lv_icmp_eq (tgt := 224) hx hb d_La_law_219 (by decide) (fun _ => ?_) (fun c9 => absurd (by first | exact hk | exact hk.symm | rfl) c9)
  refine lv_iload hx hb d_La_law_224 (lv_at hl 1 rfl) ?_
  refine lv_if_ne (tgt := 241) hx hb d_La_law_226 (by decide) (fun _ => ?_) (fun c8 => ?_)
  · refine lv_goto (tgt := 812) hx hb d_La_law_241 (by decide) ?_
    exact kk H locs ls hP hD hS (lv_sub hl [2, 3, 4, 5, 6] rfl)
  refine lv_aload_n hx hb d_La_law_229 rfl (lv_at hl 3 rfl) ?_
  refine lv_iconst (v := 0) hx hb d_La_law_230 (by decide) ?_
  refine va_lald hx hb hK (ok_left (ok_right hP)) 0 3 rfl rfl (vp_in_nI (n := 0) (by decide) (by decide)) d_La_law_231 ?_
  rw [lw_c0]
  refine lv_iload hx hb d_La_law_232 (lv_at hl 0 rfl) ?_
  refine lv_i2l hx hb d_La_law_234 rfl ?_
  refine W.lcmp hx hb d_La_law_235 ?_
  refine lv_if_eq (tgt := 241) hx hb d_La_law_236 (by decide) (fun _ => ?_) (fun c9 => absurd ((lg_cmp_eq _ _).mpr (hv c8)) c9)
  refine lv_goto (tgt := 812) hx hb d_La_law_241 (by decide) ?_
  exact kk H locs ls hP hD hS (lv_sub hl [2, 3, 4, 5, 6] rfl)
set_option maxHeartbeats 4000000 in
set_option maxRecDepth 100000 in
theorem lb_factor {b L j : Nat} {xs : Nat → Int32} {σ τ μ ν : oS} {fj : Nat → Int64} {k : Int32} (F : CallFix p m c code 7 s args (cw :: tt) RLa) (hK : va_K D vwCl (lt4 cI cL cZ cJ) s) (hZ : th_Z s) (hX : va_X b L xs s s.heap) (hbl : b < s.heap.size) (hA : ∀ q, s.heap.size ≤ q ↔ A q) (hL : L ≤ 2048) (hj : 4 * j + 4 ≤ L) (hR : cells + 1 ≤ R.cells ∧ slots + 6 ≤ R.slots ∧ 1001 ≤ R.frames ∧ 51000 ≤ R.locals)
    {rw : Room} (hrw : rw9 rw) (hw : ok_MW l y_La_factor (Cond.codeWith y_La_factor b_La_factor 5 (some .int) [((0 : Nat), (7 : Nat), (10 : Nat), (24 : Nat)), ((0 : Nat), (7 : Nat), (14 : Nat), (13 : Nat))] :: tt) rw D vwCl (lt3 cI cL cJ) (lo cJ o fj ++ ow cI cL ad σ) (lo cJ o fj ++ ow cI cL ad τ) [.ref (ad 0), .int (xs (4 * j + 1)), .int (xs (4 * j + 2)), .int (xs (4 * j + 3))] (some (.int k)))
    {rm : Room} (hrm : rm9 rm) (hm : ok_MM l y_Mo_factor (Cond.code y_Mo_factor b_Mo_factor 4 none :: tt) rm D vwCl (mt cI cZ) (mw cI cZ am μ) (mw cI cZ am ν) [.ref (am 0), .int (xs (4 * j + 1)), .int (xs (4 * j + 2)), .int (xs (4 * j + 3))] none)
    (hk : ν 0 0 0 = k)
    (hP : va_P D vwCl (mw cI cZ am μ ++ (lo cJ o fj ++ ow cI cL ad σ)) H) (hD : va_D A (mw cI cZ am μ ++ (lo cJ o fj ++ ow cI cL ad σ))) (hS : va_S A s.heap H locs) (hl : lv_has ls 7 [(4, .int (nI (4 * j))), (3, .ref o), (2, .ref (am 0)), (1, .ref (ad 0)), (0, .ref b)])
    (kk : ∀ (H : Heap) (locs : List Loc) (ls : Array Slot), va_P D vwCl (mw cI cZ am ν ++ (lo cJ o fj ++ ow cI cL ad τ)) H → va_D A (mw cI cZ am ν ++ (lo cJ o fj ++ ow cI cL ad τ)) → va_S A s.heap H locs → lv_has ls 7 [(4, .int (nI (4 * j))), (3, .ref o), (2, .ref (am 0)), (1, .ref (ad 0)), (0, .ref b)] → W p l e R s m args below meth c H locs (cells + 1) (slots + 6) Q (F0 m 812 ls [])) : W p l e R s m args below meth c H locs cells slots Q (F0 m 244 ls []) := by
  have hx := F.1
  have hb := F.2.1
  have hA9 : ∀ q, s.heap.size ≤ q → A q := fun q h => (hA q).mp h
  have hbA : ¬ A b := fun h => absurd ((hA b).mpr h) (Nat.not_le.mpr hbl)
  obtain ⟨hR1, hR2, hR3, hR4⟩ := hR
  obtain ⟨hm1, hm2, hm3, hm4⟩ := hrm
  obtain ⟨hw1, hw2, hw3, hw4⟩ := hrw
  have hZ9 : ∀ {H9 : Heap} {locs9 : List Loc}, va_S A s.heap H9 locs9 → ∀ U : State, U.heap = H9 → s.WarmedH U.vm → th_Z U := fun hS9 U hU hW9 => hZ.to hW9 (fun a c9 hc _ => by
    have ha := (Array.getElem?_eq_some_iff.mp hc).1
    rw [hU, hS9.2.1 a ha (fun h => absurd ((hA a).mpr h) (Nat.not_le.mpr ha))]; exact hc)
  refine lv_aload_n hx hb d_La_law_244 rfl (lv_at hl 3 rfl) ?_
  refine lv_aload_n hx hb d_La_law_245 rfl (lv_at hl 4 rfl) ?_
  refine lv_iload hx hb d_La_law_246 (lv_at hl 0 rfl) ?_
  refine lv_iconst (v := 1) hx hb d_La_law_248 (by decide) ?_
  refine lv_iadd hx hb d_La_law_249 ?_
  refine lw_sld F hX hbl hbA hS (k := 4 * j + 1) (nI_add (4 * j) 1) (by omega) hL d_La_law_250 ?_
  refine lv_aload_n hx hb d_La_law_251 rfl (lv_at hl 4 rfl) ?_
  refine lv_iload hx hb d_La_law_252 (lv_at hl 0 rfl) ?_
  refine lv_iconst (v := 2) hx hb d_La_law_254 (by decide) ?_
  refine lv_iadd hx hb d_La_law_255 ?_
  refine lw_sld F hX hbl hbA hS (k := 4 * j + 2) (nI_add (4 * j) 2) (by omega) hL d_La_law_256 ?_
  refine lv_aload_n hx hb d_La_law_257 rfl (lv_at hl 4 rfl) ?_
  refine lv_iload hx hb d_La_law_258 (lv_at hl 0 rfl) ?_
  refine lv_iconst (v := 3) hx hb d_La_law_260 (by decide) ?_
  refine lv_iadd hx hb d_La_law_261 ?_
  refine lw_sld F hX hbl hbA hS (k := 4 * j + 3) (nI_add (4 * j) 3) (by omega) hL d_La_law_262 ?_
  refine ok_SWF (bytes := b_La_factor) (maxL := 5) (wr := mw cI cZ am μ) (As := [.ref (ad 0), .int (xs (4 * j + 1)), .int (xs (4 * j + 2)), .int (xs (4 * j + 3))]) (rest := []) F hw 4 (List.forall_mem_cons.mpr ⟨k_La_factor, fun _ h => h⟩) rfl (tt2 149 rfl rfl) s_La_factor in9_La ⟨hw1, hw2⟩ (by decide +kernel) ⟨by omega, by omega⟩ (hK.sub [0, 1, 3] rfl) (hZ9 hS) hP hD hS hA9 rfl hl.1 rfl (Nat.zero_le _) ⟨hR1, hR2⟩ d_La_law_263 (fun H locs hP hD hS => ?_)
  refine lv_istore (lv' := [(5, .int k), (4, .int (nI (4 * j))), (3, .ref o), (2, .ref (am 0)), (1, .ref (ad 0)), (0, .ref b)]) hx hb d_La_law_266 hl (by decide) rfl (fun ls hl => ?_)
  refine lv_aload_n hx hb d_La_law_268 rfl (lv_at hl 3 rfl) ?_
  refine lv_aload_n hx hb d_La_law_269 rfl (lv_at hl 5 rfl) ?_
  refine lv_iload hx hb d_La_law_270 (lv_at hl 1 rfl) ?_
  refine lv_iconst (v := 1) hx hb d_La_law_272 (by decide) ?_
  refine lv_iadd hx hb d_La_law_273 ?_
  refine lw_sld F hX hbl hbA hS (k := 4 * j + 1) (nI_add (4 * j) 1) (by omega) hL d_La_law_274 ?_
  refine lv_aload_n hx hb d_La_law_275 rfl (lv_at hl 5 rfl) ?_
  refine lv_iload hx hb d_La_law_276 (lv_at hl 1 rfl) ?_
  refine lv_iconst (v := 2) hx hb d_La_law_278 (by decide) ?_
  refine lv_iadd hx hb d_La_law_279 ?_
  refine lw_sld F hX hbl hbA hS (k := 4 * j + 2) (nI_add (4 * j) 2) (by omega) hL d_La_law_280 ?_
  refine lv_aload_n hx hb d_La_law_281 rfl (lv_at hl 5 rfl) ?_
  refine lv_iload hx hb d_La_law_282 (lv_at hl 1 rfl) ?_
  refine lv_iconst (v := 3) hx hb d_La_law_284 (by decide) ?_
  refine lv_iadd hx hb d_La_law_285 ?_
  refine lw_sld F hX hbl hbA hS (k := 4 * j + 3) (nI_add (4 * j) 3) (by omega) hL d_La_law_286 ?_
  have hP := ok_swapP hP
  have hD := ok_swapD hD
  refine ok_VMF (wr := lo cJ o fj ++ ow cI cL ad τ) (As := [.int (xs (4 * j + 1)), .int (xs (4 * j + 2)), .int (xs (4 * j + 3))]) (rest := []) F hm 3 (tt_V (tt4 6 rfl rfl) i_Mo_factor l_Mo_factor in9_Mo k_Mo_factor) rfl ⟨hm1, hm2⟩ (by decide +kernel) ⟨by omega, by omega⟩ (hK.sub [0, 2] rfl) hP hD hS hA9 0 6 rfl rfl mw_0 rfl hl.1 rfl (by first | exact Nat.zero_le _ | exact Nat.le_of_ble_eq_true rfl) ⟨by omega, by omega⟩ d_La_law_287 (fun H locs hP hD hS => ?_)
  have hP := ok_swapP hP
  have hD := ok_swapD hD
  refine lv_aload_n hx hb d_La_law_290 rfl (lv_at hl 3 rfl) ?_
  refine x_Mo_thrown (ad := am) (cI := cI) (cZ := cZ) (D := D) F (tt3 219 rfl rfl) ⟨by omega, by omega⟩ (hK.sub [0, 2] rfl) (ok_left hP) hl.1 (Nat.zero_le _) ⟨by omega, by omega⟩ d_La_law_291 ?_
  refine lv_iload hx hb d_La_law_294 (lv_at hl 0 rfl) ?_
  refine lv_icmp_eq (tgt := 301) hx hb d_La_law_296 (by decide) (fun _ => ?_) (fun c9 => absurd (by first | exact hk | exact hk.symm | rfl) c9)
  refine lv_goto (tgt := 812) hx hb d_La_law_301 (by decide) ?_
  exact kk H locs ls hP hD hS (lv_sub hl [1, 2, 3, 4, 5] rfl)
set_option maxHeartbeats 4000000 in
set_option maxRecDepth 100000 in
theorem lb_right {b L j : Nat} {xs : Nat → Int32} {σ τ μ ν : oS} {fj : Nat → Int64} {k : Int32} (F : CallFix p m c code 7 s args (cw :: tt) RLa) (hK : va_K D vwCl (lt4 cI cL cZ cJ) s) (hZ : th_Z s) (hX : va_X b L xs s s.heap) (hbl : b < s.heap.size) (hA : ∀ q, s.heap.size ≤ q ↔ A q) (hL : L ≤ 2048) (hj : 4 * j + 4 ≤ L) (hR : cells + 1 ≤ R.cells ∧ slots + 6 ≤ R.slots ∧ 1001 ≤ R.frames ∧ 51000 ≤ R.locals)
    {rw : Room} (hrw : rw9 rw) (hw : ok_MW l y_La_right (Cond.codeWith y_La_right b_La_right 4 (some .int) [((0 : Nat), (6 : Nat), (9 : Nat), (24 : Nat)), ((0 : Nat), (6 : Nat), (12 : Nat), (13 : Nat))] :: tt) rw D vwCl (lt3 cI cL cJ) (lo cJ o fj ++ ow cI cL ad σ) (lo cJ o fj ++ ow cI cL ad τ) [.ref (ad 0), .int (xs (4 * j + 1)), .int (xs (4 * j + 2))] (some (.int k)))
    {rm : Room} (hrm : rm9 rm) (hm : ok_MM l y_Mo_right (Cond.code y_Mo_right b_Mo_right 3 none :: tt) rm D vwCl (mt cI cZ) (mw cI cZ am μ) (mw cI cZ am ν) [.ref (am 0), .int (xs (4 * j + 1)), .int (xs (4 * j + 2))] none)
    (hk : ν 0 0 0 = k)
    (hP : va_P D vwCl (mw cI cZ am μ ++ (lo cJ o fj ++ ow cI cL ad σ)) H) (hD : va_D A (mw cI cZ am μ ++ (lo cJ o fj ++ ow cI cL ad σ))) (hS : va_S A s.heap H locs) (hl : lv_has ls 7 [(4, .int (nI (4 * j))), (3, .ref o), (2, .ref (am 0)), (1, .ref (ad 0)), (0, .ref b)])
    (kk : ∀ (H : Heap) (locs : List Loc) (ls : Array Slot), va_P D vwCl (mw cI cZ am ν ++ (lo cJ o fj ++ ow cI cL ad τ)) H → va_D A (mw cI cZ am ν ++ (lo cJ o fj ++ ow cI cL ad τ)) → va_S A s.heap H locs → lv_has ls 7 [(4, .int (nI (4 * j))), (3, .ref o), (2, .ref (am 0)), (1, .ref (ad 0)), (0, .ref b)] → W p l e R s m args below meth c H locs (cells + 1) (slots + 6) Q (F0 m 812 ls [])) : W p l e R s m args below meth c H locs cells slots Q (F0 m 304 ls []) := by
  have hx := F.1
  have hb := F.2.1
  have hA9 : ∀ q, s.heap.size ≤ q → A q := fun q h => (hA q).mp h
  have hbA : ¬ A b := fun h => absurd ((hA b).mpr h) (Nat.not_le.mpr hbl)
  obtain ⟨hR1, hR2, hR3, hR4⟩ := hR
  obtain ⟨hm1, hm2, hm3, hm4⟩ := hrm
  obtain ⟨hw1, hw2, hw3, hw4⟩ := hrw
  have hZ9 : ∀ {H9 : Heap} {locs9 : List Loc}, va_S A s.heap H9 locs9 → ∀ U : State, U.heap = H9 → s.WarmedH U.vm → th_Z U := fun hS9 U hU hW9 => hZ.to hW9 (fun a c9 hc _ => by
    have ha := (Array.getElem?_eq_some_iff.mp hc).1
    rw [hU, hS9.2.1 a ha (fun h => absurd ((hA a).mpr h) (Nat.not_le.mpr ha))]; exact hc)
  refine lv_aload_n hx hb d_La_law_304 rfl (lv_at hl 3 rfl) ?_
  refine lv_aload_n hx hb d_La_law_305 rfl (lv_at hl 4 rfl) ?_
  refine lv_iload hx hb d_La_law_306 (lv_at hl 0 rfl) ?_
  refine lv_iconst (v := 1) hx hb d_La_law_308 (by decide) ?_
  refine lv_iadd hx hb d_La_law_309 ?_
  refine lw_sld F hX hbl hbA hS (k := 4 * j + 1) (nI_add (4 * j) 1) (by omega) hL d_La_law_310 ?_
  refine lv_aload_n hx hb d_La_law_311 rfl (lv_at hl 4 rfl) ?_
  refine lv_iload hx hb d_La_law_312 (lv_at hl 0 rfl) ?_
  refine lv_iconst (v := 2) hx hb d_La_law_314 (by decide) ?_
  refine lv_iadd hx hb d_La_law_315 ?_
  refine lw_sld F hX hbl hbA hS (k := 4 * j + 2) (nI_add (4 * j) 2) (by omega) hL d_La_law_316 ?_
  refine ok_SWF (bytes := b_La_right) (maxL := 4) (wr := mw cI cZ am μ) (As := [.ref (ad 0), .int (xs (4 * j + 1)), .int (xs (4 * j + 2))]) (rest := []) F hw 3 (List.forall_mem_cons.mpr ⟨k_La_right, fun _ h => h⟩) rfl (tt2 187 rfl rfl) s_La_right in9_La ⟨hw1, hw2⟩ (by decide +kernel) ⟨by omega, by omega⟩ (hK.sub [0, 1, 3] rfl) (hZ9 hS) hP hD hS hA9 rfl hl.1 rfl (Nat.zero_le _) ⟨hR1, hR2⟩ d_La_law_317 (fun H locs hP hD hS => ?_)
  refine lv_istore (lv' := [(5, .int k), (4, .int (nI (4 * j))), (3, .ref o), (2, .ref (am 0)), (1, .ref (ad 0)), (0, .ref b)]) hx hb d_La_law_320 hl (by decide) rfl (fun ls hl => ?_)
  refine lv_aload_n hx hb d_La_law_322 rfl (lv_at hl 3 rfl) ?_
  refine lv_aload_n hx hb d_La_law_323 rfl (lv_at hl 5 rfl) ?_
  refine lv_iload hx hb d_La_law_324 (lv_at hl 1 rfl) ?_
  refine lv_iconst (v := 1) hx hb d_La_law_326 (by decide) ?_
  refine lv_iadd hx hb d_La_law_327 ?_
  refine lw_sld F hX hbl hbA hS (k := 4 * j + 1) (nI_add (4 * j) 1) (by omega) hL d_La_law_328 ?_
  refine lv_aload_n hx hb d_La_law_329 rfl (lv_at hl 5 rfl) ?_
  refine lv_iload hx hb d_La_law_330 (lv_at hl 1 rfl) ?_
  refine lv_iconst (v := 2) hx hb d_La_law_332 (by decide) ?_
  refine lv_iadd hx hb d_La_law_333 ?_
  refine lw_sld F hX hbl hbA hS (k := 4 * j + 2) (nI_add (4 * j) 2) (by omega) hL d_La_law_334 ?_
  have hP := ok_swapP hP
  have hD := ok_swapD hD
  refine ok_VMF (wr := lo cJ o fj ++ ow cI cL ad τ) (As := [.int (xs (4 * j + 1)), .int (xs (4 * j + 2))]) (rest := []) F hm 2 (tt_V (tt4 18 rfl rfl) i_Mo_right l_Mo_right in9_Mo k_Mo_right) rfl ⟨hm1, hm2⟩ (by decide +kernel) ⟨by omega, by omega⟩ (hK.sub [0, 2] rfl) hP hD hS hA9 0 6 rfl rfl mw_0 rfl hl.1 rfl (by first | exact Nat.zero_le _ | exact Nat.le_of_ble_eq_true rfl) ⟨by omega, by omega⟩ d_La_law_335 (fun H locs hP hD hS => ?_)
  have hP := ok_swapP hP
  have hD := ok_swapD hD
  refine lv_aload_n hx hb d_La_law_338 rfl (lv_at hl 3 rfl) ?_
  refine x_Mo_thrown (ad := am) (cI := cI) (cZ := cZ) (D := D) F (tt3 219 rfl rfl) ⟨by omega, by omega⟩ (hK.sub [0, 2] rfl) (ok_left hP) hl.1 (Nat.zero_le _) ⟨by omega, by omega⟩ d_La_law_339 ?_
  refine lv_iload hx hb d_La_law_342 (lv_at hl 0 rfl) ?_
  refine lv_icmp_eq (tgt := 349) hx hb d_La_law_344 (by decide) (fun _ => ?_) (fun c9 => absurd (by first | exact hk | exact hk.symm | rfl) c9)
  refine lv_goto (tgt := 812) hx hb d_La_law_349 (by decide) ?_
  exact kk H locs ls hP hD hS (lv_sub hl [1, 2, 3, 4, 5] rfl)
set_option maxHeartbeats 4000000 in
set_option maxRecDepth 100000 in
theorem lb_cut {b L j : Nat} {xs : Nat → Int32} {σ τ μ ν : oS} {fj fk : Nat → Int64} {k : Int32} {v : Int32} (F : CallFix p m c code 7 s args (cw :: tt) RLa) (hK : va_K D vwCl (lt4 cI cL cZ cJ) s) (hZ : th_Z s) (hX : va_X b L xs s s.heap) (hbl : b < s.heap.size) (hA : ∀ q, s.heap.size ≤ q ↔ A q) (hL : L ≤ 2048) (hj : 4 * j + 4 ≤ L) (hR : cells + 1 ≤ R.cells ∧ slots + 6 ≤ R.slots ∧ 1001 ≤ R.frames ∧ 51000 ≤ R.locals)
    {rw : Room} (hrw : rw9 rw) (hw : ok_MW l y_La_cut (Cond.codeWith y_La_cut b_La_cut 5 (some .int) [((0 : Nat), (10 : Nat), (13 : Nat), (24 : Nat)), ((0 : Nat), (10 : Nat), (17 : Nat), (15 : Nat))] :: tt) rw D vwCl (lt3 cI cL cJ) (lo cJ o fj ++ ow cI cL ad σ) (lo cJ o fk ++ ow cI cL ad τ) [.ref (ad 0), .int (xs (4 * j + 1)), .int (xs (4 * j + 2)), .ref o] (some (.int k)))
    {rm : Room} (hrm : rm9 rm) (hm : ok_MM l y_Mo_cut (Cond.code y_Mo_cut b_Mo_cut 5 (some .int) :: tt) rm D vwCl (mt cI cZ) (mw cI cZ am μ) (mw cI cZ am ν) [.ref (am 0), .int (xs (4 * j + 1)), .int (xs (4 * j + 2))] (some (.int v)))
    (hk : ν 0 0 0 = k)
    (hv : k = 0 → fk 0 = Int32.toInt64 v)
    (hP : va_P D vwCl (mw cI cZ am μ ++ (lo cJ o fj ++ ow cI cL ad σ)) H) (hD : va_D A (mw cI cZ am μ ++ (lo cJ o fj ++ ow cI cL ad σ))) (hS : va_S A s.heap H locs) (hl : lv_has ls 7 [(4, .int (nI (4 * j))), (3, .ref o), (2, .ref (am 0)), (1, .ref (ad 0)), (0, .ref b)])
    (kk : ∀ (H : Heap) (locs : List Loc) (ls : Array Slot), va_P D vwCl (mw cI cZ am ν ++ (lo cJ o fk ++ ow cI cL ad τ)) H → va_D A (mw cI cZ am ν ++ (lo cJ o fk ++ ow cI cL ad τ)) → va_S A s.heap H locs → lv_has ls 7 [(4, .int (nI (4 * j))), (3, .ref o), (2, .ref (am 0)), (1, .ref (ad 0)), (0, .ref b)] → W p l e R s m args below meth c H locs (cells + 1) (slots + 6) Q (F0 m 812 ls [])) : W p l e R s m args below meth c H locs cells slots Q (F0 m 352 ls []) := by
  have hx := F.1
  have hb := F.2.1
  have hA9 : ∀ q, s.heap.size ≤ q → A q := fun q h => (hA q).mp h
  have hbA : ¬ A b := fun h => absurd ((hA b).mpr h) (Nat.not_le.mpr hbl)
  obtain ⟨hR1, hR2, hR3, hR4⟩ := hR
  obtain ⟨hm1, hm2, hm3, hm4⟩ := hrm
  obtain ⟨hw1, hw2, hw3, hw4⟩ := hrw
  have hZ9 : ∀ {H9 : Heap} {locs9 : List Loc}, va_S A s.heap H9 locs9 → ∀ U : State, U.heap = H9 → s.WarmedH U.vm → th_Z U := fun hS9 U hU hW9 => hZ.to hW9 (fun a c9 hc _ => by
    have ha := (Array.getElem?_eq_some_iff.mp hc).1
    rw [hU, hS9.2.1 a ha (fun h => absurd ((hA a).mpr h) (Nat.not_le.mpr ha))]; exact hc)
  refine lv_aload_n hx hb d_La_law_352 rfl (lv_at hl 3 rfl) ?_
  refine lv_aload_n hx hb d_La_law_353 rfl (lv_at hl 4 rfl) ?_
  refine lv_iload hx hb d_La_law_354 (lv_at hl 0 rfl) ?_
  refine lv_iconst (v := 1) hx hb d_La_law_356 (by decide) ?_
  refine lv_iadd hx hb d_La_law_357 ?_
  refine lw_sld F hX hbl hbA hS (k := 4 * j + 1) (nI_add (4 * j) 1) (by omega) hL d_La_law_358 ?_
  refine lv_aload_n hx hb d_La_law_359 rfl (lv_at hl 4 rfl) ?_
  refine lv_iload hx hb d_La_law_360 (lv_at hl 0 rfl) ?_
  refine lv_iconst (v := 2) hx hb d_La_law_362 (by decide) ?_
  refine lv_iadd hx hb d_La_law_363 ?_
  refine lw_sld F hX hbl hbA hS (k := 4 * j + 2) (nI_add (4 * j) 2) (by omega) hL d_La_law_364 ?_
  refine lv_aload_n hx hb d_La_law_365 rfl (lv_at hl 1 rfl) ?_
  refine ok_SWF (bytes := b_La_cut) (maxL := 5) (wr := mw cI cZ am μ) (As := [.ref (ad 0), .int (xs (4 * j + 1)), .int (xs (4 * j + 2)), .ref o]) (rest := []) F hw 4 (List.forall_mem_cons.mpr ⟨k_La_cut, fun _ h => h⟩) rfl (tt2 195 rfl rfl) s_La_cut in9_La ⟨hw1, hw2⟩ (by decide +kernel) ⟨by omega, by omega⟩ (hK.sub [0, 1, 3] rfl) (hZ9 hS) hP hD hS hA9 rfl hl.1 rfl (Nat.zero_le _) ⟨hR1, hR2⟩ d_La_law_366 (fun H locs hP hD hS => ?_)
  refine lv_istore (lv' := [(5, .int k), (4, .int (nI (4 * j))), (3, .ref o), (2, .ref (am 0)), (1, .ref (ad 0)), (0, .ref b)]) hx hb d_La_law_369 hl (by decide) rfl (fun ls hl => ?_)
  refine lv_aload_n hx hb d_La_law_371 rfl (lv_at hl 3 rfl) ?_
  refine lv_aload_n hx hb d_La_law_372 rfl (lv_at hl 5 rfl) ?_
  refine lv_iload hx hb d_La_law_373 (lv_at hl 1 rfl) ?_
  refine lv_iconst (v := 1) hx hb d_La_law_375 (by decide) ?_
  refine lv_iadd hx hb d_La_law_376 ?_
  refine lw_sld F hX hbl hbA hS (k := 4 * j + 1) (nI_add (4 * j) 1) (by omega) hL d_La_law_377 ?_
  refine lv_aload_n hx hb d_La_law_378 rfl (lv_at hl 5 rfl) ?_
  refine lv_iload hx hb d_La_law_379 (lv_at hl 1 rfl) ?_
  refine lv_iconst (v := 2) hx hb d_La_law_381 (by decide) ?_
  refine lv_iadd hx hb d_La_law_382 ?_
  refine lw_sld F hX hbl hbA hS (k := 4 * j + 2) (nI_add (4 * j) 2) (by omega) hL d_La_law_383 ?_
  have hP := ok_swapP hP
  have hD := ok_swapD hD
  refine ok_VMF (wr := lo cJ o fk ++ ow cI cL ad τ) (As := [.int (xs (4 * j + 1)), .int (xs (4 * j + 2))]) (rest := []) F hm 2 (tt_V (tt4 22 rfl rfl) i_Mo_cut l_Mo_cut in9_Mo k_Mo_cut) rfl ⟨hm1, hm2⟩ (by decide +kernel) ⟨by omega, by omega⟩ (hK.sub [0, 2] rfl) hP hD hS hA9 0 6 rfl rfl mw_0 rfl hl.1 rfl (by first | exact Nat.zero_le _ | exact Nat.le_of_ble_eq_true rfl) ⟨by omega, by omega⟩ d_La_law_384 (fun H locs hP hD hS => ?_)
  have hP := ok_swapP hP
  have hD := ok_swapD hD
  refine lv_istore (lv' := [(6, .int v), (5, .int k), (4, .int (nI (4 * j))), (3, .ref o), (2, .ref (am 0)), (1, .ref (ad 0)), (0, .ref b)]) hx hb d_La_law_387 hl (by decide) rfl (fun ls hl => ?_)
  refine lv_aload_n hx hb d_La_law_389 rfl (lv_at hl 4 rfl) ?_
  refine x_Mo_thrown (ad := am) (cI := cI) (cZ := cZ) (D := D) F (tt3 219 rfl rfl) ⟨by omega, by omega⟩ (hK.sub [0, 2] rfl) (ok_left hP) hl.1 (Nat.zero_le _) ⟨by omega, by omega⟩ d_La_law_390 ?_
  refine lv_iload hx hb d_La_law_393 (lv_at hl 1 rfl) ?_
  refine lv_icmp_eq (tgt := 400) hx hb d_La_law_395 (by decide) (fun _ => ?_) (fun c9 => absurd (by first | exact hk | exact hk.symm | rfl) c9)
  refine lv_iload hx hb d_La_law_400 (lv_at hl 1 rfl) ?_
  refine lv_if_ne (tgt := 417) hx hb d_La_law_402 (by decide) (fun _ => ?_) (fun c8 => ?_)
  · refine lv_goto (tgt := 812) hx hb d_La_law_417 (by decide) ?_
    exact kk H locs ls hP hD hS (lv_sub hl [2, 3, 4, 5, 6] rfl)
  refine lv_aload_n hx hb d_La_law_405 rfl (lv_at hl 3 rfl) ?_
  refine lv_iconst (v := 0) hx hb d_La_law_406 (by decide) ?_
  refine va_lald hx hb hK (ok_left (ok_right hP)) 0 3 rfl rfl (vp_in_nI (n := 0) (by decide) (by decide)) d_La_law_407 ?_
  rw [lw_c0]
  refine lv_iload hx hb d_La_law_408 (lv_at hl 0 rfl) ?_
  refine lv_i2l hx hb d_La_law_410 rfl ?_
  refine W.lcmp hx hb d_La_law_411 ?_
  refine lv_if_eq (tgt := 417) hx hb d_La_law_412 (by decide) (fun _ => ?_) (fun c9 => absurd ((lg_cmp_eq _ _).mpr (hv c8)) c9)
  refine lv_goto (tgt := 812) hx hb d_La_law_417 (by decide) ?_
  exact kk H locs ls hP hD hS (lv_sub hl [2, 3, 4, 5, 6] rfl)
set_option maxHeartbeats 4000000 in
set_option maxRecDepth 100000 in
theorem lb_run {b L j : Nat} {xs : Nat → Int32} {σ τ μ ν : oS} {fj fk : Nat → Int64} {k : Int32} {v : Int32} (F : CallFix p m c code 7 s args (cw :: tt) RLa) (hK : va_K D vwCl (lt4 cI cL cZ cJ) s) (hZ : th_Z s) (hX : va_X b L xs s s.heap) (hbl : b < s.heap.size) (hA : ∀ q, s.heap.size ≤ q ↔ A q) (hL : L ≤ 2048) (hj : 4 * j + 4 ≤ L) (hR : cells + 1 ≤ R.cells ∧ slots + 6 ≤ R.slots ∧ 1001 ≤ R.frames ∧ 51000 ≤ R.locals)
    {rw : Room} (hrw : rw9 rw) (hw : ok_MW l y_La_run (Cond.codeWith y_La_run b_La_run 4 (some .int) [((0 : Nat), (9 : Nat), (12 : Nat), (13 : Nat))] :: tt) rw D vwCl (lt3 cI cL cJ) (lo cJ o fj ++ ow cI cL ad σ) (lo cJ o fk ++ ow cI cL ad τ) [.ref (ad 0), .int (xs (4 * j + 1)), .ref o] (some (.int k)))
    {rm : Room} (hrm : rm9 rm) (hm : ok_MM l y_Mo_run (Cond.code y_Mo_run b_Mo_run 3 (some .int) :: tt) rm D vwCl (mt cI cZ) (mw cI cZ am μ) (mw cI cZ am ν) [.ref (am 0), .int (xs (4 * j + 1))] (some (.int v)))
    (hk : ν 0 0 0 = k)
    (hv : k = 0 → fk 0 = Int32.toInt64 v)
    (hP : va_P D vwCl (mw cI cZ am μ ++ (lo cJ o fj ++ ow cI cL ad σ)) H) (hD : va_D A (mw cI cZ am μ ++ (lo cJ o fj ++ ow cI cL ad σ))) (hS : va_S A s.heap H locs) (hl : lv_has ls 7 [(4, .int (nI (4 * j))), (3, .ref o), (2, .ref (am 0)), (1, .ref (ad 0)), (0, .ref b)])
    (kk : ∀ (H : Heap) (locs : List Loc) (ls : Array Slot), va_P D vwCl (mw cI cZ am ν ++ (lo cJ o fk ++ ow cI cL ad τ)) H → va_D A (mw cI cZ am ν ++ (lo cJ o fk ++ ow cI cL ad τ)) → va_S A s.heap H locs → lv_has ls 7 [(4, .int (nI (4 * j))), (3, .ref o), (2, .ref (am 0)), (1, .ref (ad 0)), (0, .ref b)] → W p l e R s m args below meth c H locs (cells + 1) (slots + 6) Q (F0 m 812 ls [])) : W p l e R s m args below meth c H locs cells slots Q (F0 m 420 ls []) := by
  have hx := F.1
  have hb := F.2.1
  have hA9 : ∀ q, s.heap.size ≤ q → A q := fun q h => (hA q).mp h
  have hbA : ¬ A b := fun h => absurd ((hA b).mpr h) (Nat.not_le.mpr hbl)
  obtain ⟨hR1, hR2, hR3, hR4⟩ := hR
  obtain ⟨hm1, hm2, hm3, hm4⟩ := hrm
  obtain ⟨hw1, hw2, hw3, hw4⟩ := hrw
  have hZ9 : ∀ {H9 : Heap} {locs9 : List Loc}, va_S A s.heap H9 locs9 → ∀ U : State, U.heap = H9 → s.WarmedH U.vm → th_Z U := fun hS9 U hU hW9 => hZ.to hW9 (fun a c9 hc _ => by
    have ha := (Array.getElem?_eq_some_iff.mp hc).1
    rw [hU, hS9.2.1 a ha (fun h => absurd ((hA a).mpr h) (Nat.not_le.mpr ha))]; exact hc)
  refine lv_aload_n hx hb d_La_law_420 rfl (lv_at hl 3 rfl) ?_
  refine lv_aload_n hx hb d_La_law_421 rfl (lv_at hl 4 rfl) ?_
  refine lv_iload hx hb d_La_law_422 (lv_at hl 0 rfl) ?_
  refine lv_iconst (v := 1) hx hb d_La_law_424 (by decide) ?_
  refine lv_iadd hx hb d_La_law_425 ?_
  refine lw_sld F hX hbl hbA hS (k := 4 * j + 1) (nI_add (4 * j) 1) (by omega) hL d_La_law_426 ?_
  refine lv_aload_n hx hb d_La_law_427 rfl (lv_at hl 1 rfl) ?_
  refine ok_SWF (bytes := b_La_run) (maxL := 4) (wr := mw cI cZ am μ) (As := [.ref (ad 0), .int (xs (4 * j + 1)), .ref o]) (rest := []) F hw 3 (List.forall_mem_cons.mpr ⟨k_La_run, fun _ h => h⟩) rfl (tt2 223 rfl rfl) s_La_run in9_La ⟨hw1, hw2⟩ (by decide +kernel) ⟨by omega, by omega⟩ (hK.sub [0, 1, 3] rfl) (hZ9 hS) hP hD hS hA9 rfl hl.1 rfl (Nat.zero_le _) ⟨hR1, hR2⟩ d_La_law_428 (fun H locs hP hD hS => ?_)
  refine lv_istore (lv' := [(5, .int k), (4, .int (nI (4 * j))), (3, .ref o), (2, .ref (am 0)), (1, .ref (ad 0)), (0, .ref b)]) hx hb d_La_law_431 hl (by decide) rfl (fun ls hl => ?_)
  refine lv_aload_n hx hb d_La_law_433 rfl (lv_at hl 3 rfl) ?_
  refine lv_aload_n hx hb d_La_law_434 rfl (lv_at hl 5 rfl) ?_
  refine lv_iload hx hb d_La_law_435 (lv_at hl 1 rfl) ?_
  refine lv_iconst (v := 1) hx hb d_La_law_437 (by decide) ?_
  refine lv_iadd hx hb d_La_law_438 ?_
  refine lw_sld F hX hbl hbA hS (k := 4 * j + 1) (nI_add (4 * j) 1) (by omega) hL d_La_law_439 ?_
  have hP := ok_swapP hP
  have hD := ok_swapD hD
  refine ok_VMF (wr := lo cJ o fk ++ ow cI cL ad τ) (As := [.int (xs (4 * j + 1))]) (rest := []) F hm 1 (tt_V (tt4 26 rfl rfl) i_Mo_run l_Mo_run in9_Mo k_Mo_run) rfl ⟨hm1, hm2⟩ (by decide +kernel) ⟨by omega, by omega⟩ (hK.sub [0, 2] rfl) hP hD hS hA9 0 6 rfl rfl mw_0 rfl hl.1 rfl (by first | exact Nat.zero_le _ | exact Nat.le_of_ble_eq_true rfl) ⟨by omega, by omega⟩ d_La_law_440 (fun H locs hP hD hS => ?_)
  have hP := ok_swapP hP
  have hD := ok_swapD hD
  refine lv_istore (lv' := [(6, .int v), (5, .int k), (4, .int (nI (4 * j))), (3, .ref o), (2, .ref (am 0)), (1, .ref (ad 0)), (0, .ref b)]) hx hb d_La_law_443 hl (by decide) rfl (fun ls hl => ?_)
  refine lv_aload_n hx hb d_La_law_445 rfl (lv_at hl 4 rfl) ?_
  refine x_Mo_thrown (ad := am) (cI := cI) (cZ := cZ) (D := D) F (tt3 219 rfl rfl) ⟨by omega, by omega⟩ (hK.sub [0, 2] rfl) (ok_left hP) hl.1 (Nat.zero_le _) ⟨by omega, by omega⟩ d_La_law_446 ?_
  refine lv_iload hx hb d_La_law_449 (lv_at hl 1 rfl) ?_
  refine lv_icmp_eq (tgt := 456) hx hb d_La_law_451 (by decide) (fun _ => ?_) (fun c9 => absurd (by first | exact hk | exact hk.symm | rfl) c9)
  refine lv_iload hx hb d_La_law_456 (lv_at hl 1 rfl) ?_
  refine lv_if_ne (tgt := 473) hx hb d_La_law_458 (by decide) (fun _ => ?_) (fun c8 => ?_)
  · refine lv_goto (tgt := 812) hx hb d_La_law_473 (by decide) ?_
    exact kk H locs ls hP hD hS (lv_sub hl [2, 3, 4, 5, 6] rfl)
  refine lv_aload_n hx hb d_La_law_461 rfl (lv_at hl 3 rfl) ?_
  refine lv_iconst (v := 0) hx hb d_La_law_462 (by decide) ?_
  refine va_lald hx hb hK (ok_left (ok_right hP)) 0 3 rfl rfl (vp_in_nI (n := 0) (by decide) (by decide)) d_La_law_463 ?_
  rw [lw_c0]
  refine lv_iload hx hb d_La_law_464 (lv_at hl 0 rfl) ?_
  refine lv_i2l hx hb d_La_law_466 rfl ?_
  refine W.lcmp hx hb d_La_law_467 ?_
  refine lv_if_eq (tgt := 473) hx hb d_La_law_468 (by decide) (fun _ => ?_) (fun c9 => absurd ((lg_cmp_eq _ _).mpr (hv c8)) c9)
  refine lv_goto (tgt := 812) hx hb d_La_law_473 (by decide) ?_
  exact kk H locs ls hP hD hS (lv_sub hl [2, 3, 4, 5, 6] rfl)
set_option maxHeartbeats 4000000 in
set_option maxRecDepth 100000 in
theorem lb_told {b L j : Nat} {xs : Nat → Int32} {σ τ μ ν : oS} {fj fk : Nat → Int64} {k : Int32} {v : Int32} (F : CallFix p m c code 7 s args (cw :: tt) RLa) (hK : va_K D vwCl (lt4 cI cL cZ cJ) s) (hZ : th_Z s) (hX : va_X b L xs s s.heap) (hbl : b < s.heap.size) (hA : ∀ q, s.heap.size ≤ q ↔ A q) (hL : L ≤ 2048) (hj : 4 * j + 4 ≤ L) (hR : cells + 1 ≤ R.cells ∧ slots + 6 ≤ R.slots ∧ 1001 ≤ R.frames ∧ 51000 ≤ R.locals)
    {rw : Room} (hrw : rw9 rw) (hw : ok_MW l y_La_told (Cond.codeWith y_La_told b_La_told 4 (some .int) [((0 : Nat), (9 : Nat), (12 : Nat), (24 : Nat)), ((0 : Nat), (9 : Nat), (15 : Nat), (40 : Nat))] :: tt) rw D vwCl (lt3 cI cL cJ) (lo cJ o fj ++ ow cI cL ad σ) (lo cJ o fk ++ ow cI cL ad τ) [.ref (ad 0), .int (xs (4 * j + 1)), .ref o] (some (.int k)))
    {rm : Room} (hrm : rm9 rm) (hm : ok_MM l y_Mo_told (Cond.code y_Mo_told b_Mo_told 2 (some .int) :: tt) rm D vwCl (mt cI cZ) (mw cI cZ am μ) (mw cI cZ am ν) [.ref (am 0), .int (xs (4 * j + 1))] (some (.int v)))
    (hk : ν 0 0 0 = k)
    (hv : k = 0 → fk 0 = Int32.toInt64 v)
    (hP : va_P D vwCl (mw cI cZ am μ ++ (lo cJ o fj ++ ow cI cL ad σ)) H) (hD : va_D A (mw cI cZ am μ ++ (lo cJ o fj ++ ow cI cL ad σ))) (hS : va_S A s.heap H locs) (hl : lv_has ls 7 [(4, .int (nI (4 * j))), (3, .ref o), (2, .ref (am 0)), (1, .ref (ad 0)), (0, .ref b)])
    (kk : ∀ (H : Heap) (locs : List Loc) (ls : Array Slot), va_P D vwCl (mw cI cZ am ν ++ (lo cJ o fk ++ ow cI cL ad τ)) H → va_D A (mw cI cZ am ν ++ (lo cJ o fk ++ ow cI cL ad τ)) → va_S A s.heap H locs → lv_has ls 7 [(4, .int (nI (4 * j))), (3, .ref o), (2, .ref (am 0)), (1, .ref (ad 0)), (0, .ref b)] → W p l e R s m args below meth c H locs (cells + 1) (slots + 6) Q (F0 m 812 ls [])) : W p l e R s m args below meth c H locs cells slots Q (F0 m 476 ls []) := by
  have hx := F.1
  have hb := F.2.1
  have hA9 : ∀ q, s.heap.size ≤ q → A q := fun q h => (hA q).mp h
  have hbA : ¬ A b := fun h => absurd ((hA b).mpr h) (Nat.not_le.mpr hbl)
  obtain ⟨hR1, hR2, hR3, hR4⟩ := hR
  obtain ⟨hm1, hm2, hm3, hm4⟩ := hrm
  obtain ⟨hw1, hw2, hw3, hw4⟩ := hrw
  have hZ9 : ∀ {H9 : Heap} {locs9 : List Loc}, va_S A s.heap H9 locs9 → ∀ U : State, U.heap = H9 → s.WarmedH U.vm → th_Z U := fun hS9 U hU hW9 => hZ.to hW9 (fun a c9 hc _ => by
    have ha := (Array.getElem?_eq_some_iff.mp hc).1
    rw [hU, hS9.2.1 a ha (fun h => absurd ((hA a).mpr h) (Nat.not_le.mpr ha))]; exact hc)
  refine lv_aload_n hx hb d_La_law_476 rfl (lv_at hl 3 rfl) ?_
  refine lv_aload_n hx hb d_La_law_477 rfl (lv_at hl 4 rfl) ?_
  refine lv_iload hx hb d_La_law_478 (lv_at hl 0 rfl) ?_
  refine lv_iconst (v := 1) hx hb d_La_law_480 (by decide) ?_
  refine lv_iadd hx hb d_La_law_481 ?_
  refine lw_sld F hX hbl hbA hS (k := 4 * j + 1) (nI_add (4 * j) 1) (by omega) hL d_La_law_482 ?_
  refine lv_aload_n hx hb d_La_law_483 rfl (lv_at hl 1 rfl) ?_
  refine ok_SWF (bytes := b_La_told) (maxL := 4) (wr := mw cI cZ am μ) (As := [.ref (ad 0), .int (xs (4 * j + 1)), .ref o]) (rest := []) F hw 3 (List.forall_mem_cons.mpr ⟨k_La_told, fun _ h => h⟩) rfl (tt3 32 rfl rfl) s_La_told in9_La ⟨hw1, hw2⟩ (by decide +kernel) ⟨by omega, by omega⟩ (hK.sub [0, 1, 3] rfl) (hZ9 hS) hP hD hS hA9 rfl hl.1 rfl (Nat.zero_le _) ⟨hR1, hR2⟩ d_La_law_484 (fun H locs hP hD hS => ?_)
  refine lv_istore (lv' := [(5, .int k), (4, .int (nI (4 * j))), (3, .ref o), (2, .ref (am 0)), (1, .ref (ad 0)), (0, .ref b)]) hx hb d_La_law_487 hl (by decide) rfl (fun ls hl => ?_)
  refine lv_aload_n hx hb d_La_law_489 rfl (lv_at hl 3 rfl) ?_
  refine lv_aload_n hx hb d_La_law_490 rfl (lv_at hl 5 rfl) ?_
  refine lv_iload hx hb d_La_law_491 (lv_at hl 1 rfl) ?_
  refine lv_iconst (v := 1) hx hb d_La_law_493 (by decide) ?_
  refine lv_iadd hx hb d_La_law_494 ?_
  refine lw_sld F hX hbl hbA hS (k := 4 * j + 1) (nI_add (4 * j) 1) (by omega) hL d_La_law_495 ?_
  have hP := ok_swapP hP
  have hD := ok_swapD hD
  refine ok_VMF (wr := lo cJ o fk ++ ow cI cL ad τ) (As := [.int (xs (4 * j + 1))]) (rest := []) F hm 1 (tt_V (tt4 59 rfl rfl) i_Mo_told l_Mo_told in9_Mo k_Mo_told) rfl ⟨hm1, hm2⟩ (by decide +kernel) ⟨by omega, by omega⟩ (hK.sub [0, 2] rfl) hP hD hS hA9 0 6 rfl rfl mw_0 rfl hl.1 rfl (by first | exact Nat.zero_le _ | exact Nat.le_of_ble_eq_true rfl) ⟨by omega, by omega⟩ d_La_law_496 (fun H locs hP hD hS => ?_)
  have hP := ok_swapP hP
  have hD := ok_swapD hD
  refine lv_istore (lv' := [(6, .int v), (5, .int k), (4, .int (nI (4 * j))), (3, .ref o), (2, .ref (am 0)), (1, .ref (ad 0)), (0, .ref b)]) hx hb d_La_law_499 hl (by decide) rfl (fun ls hl => ?_)
  refine lv_aload_n hx hb d_La_law_501 rfl (lv_at hl 4 rfl) ?_
  refine x_Mo_thrown (ad := am) (cI := cI) (cZ := cZ) (D := D) F (tt3 219 rfl rfl) ⟨by omega, by omega⟩ (hK.sub [0, 2] rfl) (ok_left hP) hl.1 (Nat.zero_le _) ⟨by omega, by omega⟩ d_La_law_502 ?_
  refine lv_iload hx hb d_La_law_505 (lv_at hl 1 rfl) ?_
  refine lv_icmp_eq (tgt := 512) hx hb d_La_law_507 (by decide) (fun _ => ?_) (fun c9 => absurd (by first | exact hk | exact hk.symm | rfl) c9)
  refine lv_iload hx hb d_La_law_512 (lv_at hl 1 rfl) ?_
  refine lv_if_ne (tgt := 529) hx hb d_La_law_514 (by decide) (fun _ => ?_) (fun c8 => ?_)
  · refine lv_goto (tgt := 812) hx hb d_La_law_529 (by decide) ?_
    exact kk H locs ls hP hD hS (lv_sub hl [2, 3, 4, 5, 6] rfl)
  refine lv_aload_n hx hb d_La_law_517 rfl (lv_at hl 3 rfl) ?_
  refine lv_iconst (v := 0) hx hb d_La_law_518 (by decide) ?_
  refine va_lald hx hb hK (ok_left (ok_right hP)) 0 3 rfl rfl (vp_in_nI (n := 0) (by decide) (by decide)) d_La_law_519 ?_
  rw [lw_c0]
  refine lv_iload hx hb d_La_law_520 (lv_at hl 0 rfl) ?_
  refine lv_i2l hx hb d_La_law_522 rfl ?_
  refine W.lcmp hx hb d_La_law_523 ?_
  refine lv_if_eq (tgt := 529) hx hb d_La_law_524 (by decide) (fun _ => ?_) (fun c9 => absurd ((lg_cmp_eq _ _).mpr (hv c8)) c9)
  refine lv_goto (tgt := 812) hx hb d_La_law_529 (by decide) ?_
  exact kk H locs ls hP hD hS (lv_sub hl [2, 3, 4, 5, 6] rfl)
set_option maxHeartbeats 4000000 in
set_option maxRecDepth 100000 in
theorem lb_value {b L j : Nat} {xs : Nat → Int32} {σ τ μ ν : oS} {fj fk : Nat → Int64} {k : Int32} {v : Int32} (F : CallFix p m c code 7 s args (cw :: tt) RLa) (hK : va_K D vwCl (lt4 cI cL cZ cJ) s) (hZ : th_Z s) (hX : va_X b L xs s s.heap) (hbl : b < s.heap.size) (hA : ∀ q, s.heap.size ≤ q ↔ A q) (hL : L ≤ 2048) (hj : 4 * j + 4 ≤ L) (hR : cells + 1 ≤ R.cells ∧ slots + 6 ≤ R.slots ∧ 1001 ≤ R.frames ∧ 51000 ≤ R.locals)
    {rw : Room} (hrw : rw9 rw) (hw : ok_MW l y_La_value (Cond.codeWith y_La_value b_La_value 4 (some .int) [((0 : Nat), (9 : Nat), (12 : Nat), (24 : Nat)), ((0 : Nat), (9 : Nat), (15 : Nat), (40 : Nat))] :: tt) rw D vwCl (lt3 cI cL cJ) (lo cJ o fj ++ ow cI cL ad σ) (lo cJ o fk ++ ow cI cL ad τ) [.ref (ad 0), .int (xs (4 * j + 1)), .ref o] (some (.int k)))
    {rm : Room} (hrm : rm9 rm) (hm : ok_MM l y_Mo_value (Cond.code y_Mo_value b_Mo_value 2 (some .int) :: tt) rm D vwCl (mt cI cZ) (mw cI cZ am μ) (mw cI cZ am ν) [.ref (am 0), .int (xs (4 * j + 1))] (some (.int v)))
    (hk : ν 0 0 0 = k)
    (hv : k = 0 → fk 0 = Int32.toInt64 v)
    (hP : va_P D vwCl (mw cI cZ am μ ++ (lo cJ o fj ++ ow cI cL ad σ)) H) (hD : va_D A (mw cI cZ am μ ++ (lo cJ o fj ++ ow cI cL ad σ))) (hS : va_S A s.heap H locs) (hl : lv_has ls 7 [(4, .int (nI (4 * j))), (3, .ref o), (2, .ref (am 0)), (1, .ref (ad 0)), (0, .ref b)])
    (kk : ∀ (H : Heap) (locs : List Loc) (ls : Array Slot), va_P D vwCl (mw cI cZ am ν ++ (lo cJ o fk ++ ow cI cL ad τ)) H → va_D A (mw cI cZ am ν ++ (lo cJ o fk ++ ow cI cL ad τ)) → va_S A s.heap H locs → lv_has ls 7 [(4, .int (nI (4 * j))), (3, .ref o), (2, .ref (am 0)), (1, .ref (ad 0)), (0, .ref b)] → W p l e R s m args below meth c H locs (cells + 1) (slots + 6) Q (F0 m 812 ls [])) : W p l e R s m args below meth c H locs cells slots Q (F0 m 532 ls []) := by
  have hx := F.1
  have hb := F.2.1
  have hA9 : ∀ q, s.heap.size ≤ q → A q := fun q h => (hA q).mp h
  have hbA : ¬ A b := fun h => absurd ((hA b).mpr h) (Nat.not_le.mpr hbl)
  obtain ⟨hR1, hR2, hR3, hR4⟩ := hR
  obtain ⟨hm1, hm2, hm3, hm4⟩ := hrm
  obtain ⟨hw1, hw2, hw3, hw4⟩ := hrw
  have hZ9 : ∀ {H9 : Heap} {locs9 : List Loc}, va_S A s.heap H9 locs9 → ∀ U : State, U.heap = H9 → s.WarmedH U.vm → th_Z U := fun hS9 U hU hW9 => hZ.to hW9 (fun a c9 hc _ => by
    have ha := (Array.getElem?_eq_some_iff.mp hc).1
    rw [hU, hS9.2.1 a ha (fun h => absurd ((hA a).mpr h) (Nat.not_le.mpr ha))]; exact hc)
  refine lv_aload_n hx hb d_La_law_532 rfl (lv_at hl 3 rfl) ?_
  refine lv_aload_n hx hb d_La_law_533 rfl (lv_at hl 4 rfl) ?_
  refine lv_iload hx hb d_La_law_534 (lv_at hl 0 rfl) ?_
  refine lv_iconst (v := 1) hx hb d_La_law_536 (by decide) ?_
  refine lv_iadd hx hb d_La_law_537 ?_
  refine lw_sld F hX hbl hbA hS (k := 4 * j + 1) (nI_add (4 * j) 1) (by omega) hL d_La_law_538 ?_
  refine lv_aload_n hx hb d_La_law_539 rfl (lv_at hl 1 rfl) ?_
  refine ok_SWF (bytes := b_La_value) (maxL := 4) (wr := mw cI cZ am μ) (As := [.ref (ad 0), .int (xs (4 * j + 1)), .ref o]) (rest := []) F hw 3 (List.forall_mem_cons.mpr ⟨k_La_value, fun _ h => h⟩) rfl (tt3 69 rfl rfl) s_La_value in9_La ⟨hw1, hw2⟩ (by decide +kernel) ⟨by omega, by omega⟩ (hK.sub [0, 1, 3] rfl) (hZ9 hS) hP hD hS hA9 rfl hl.1 rfl (Nat.zero_le _) ⟨hR1, hR2⟩ d_La_law_540 (fun H locs hP hD hS => ?_)
  refine lv_istore (lv' := [(5, .int k), (4, .int (nI (4 * j))), (3, .ref o), (2, .ref (am 0)), (1, .ref (ad 0)), (0, .ref b)]) hx hb d_La_law_543 hl (by decide) rfl (fun ls hl => ?_)
  refine lv_aload_n hx hb d_La_law_545 rfl (lv_at hl 3 rfl) ?_
  refine lv_aload_n hx hb d_La_law_546 rfl (lv_at hl 5 rfl) ?_
  refine lv_iload hx hb d_La_law_547 (lv_at hl 1 rfl) ?_
  refine lv_iconst (v := 1) hx hb d_La_law_549 (by decide) ?_
  refine lv_iadd hx hb d_La_law_550 ?_
  refine lw_sld F hX hbl hbA hS (k := 4 * j + 1) (nI_add (4 * j) 1) (by omega) hL d_La_law_551 ?_
  have hP := ok_swapP hP
  have hD := ok_swapD hD
  refine ok_VMF (wr := lo cJ o fk ++ ow cI cL ad τ) (As := [.int (xs (4 * j + 1))]) (rest := []) F hm 1 (tt_V (tt4 63 rfl rfl) i_Mo_value l_Mo_value in9_Mo k_Mo_value) rfl ⟨hm1, hm2⟩ (by decide +kernel) ⟨by omega, by omega⟩ (hK.sub [0, 2] rfl) hP hD hS hA9 0 6 rfl rfl mw_0 rfl hl.1 rfl (by first | exact Nat.zero_le _ | exact Nat.le_of_ble_eq_true rfl) ⟨by omega, by omega⟩ d_La_law_552 (fun H locs hP hD hS => ?_)
  have hP := ok_swapP hP
  have hD := ok_swapD hD
  refine lv_istore (lv' := [(6, .int v), (5, .int k), (4, .int (nI (4 * j))), (3, .ref o), (2, .ref (am 0)), (1, .ref (ad 0)), (0, .ref b)]) hx hb d_La_law_555 hl (by decide) rfl (fun ls hl => ?_)
  refine lv_aload_n hx hb d_La_law_557 rfl (lv_at hl 4 rfl) ?_
  refine x_Mo_thrown (ad := am) (cI := cI) (cZ := cZ) (D := D) F (tt3 219 rfl rfl) ⟨by omega, by omega⟩ (hK.sub [0, 2] rfl) (ok_left hP) hl.1 (Nat.zero_le _) ⟨by omega, by omega⟩ d_La_law_558 ?_
  refine lv_iload hx hb d_La_law_561 (lv_at hl 1 rfl) ?_
  refine lv_icmp_eq (tgt := 568) hx hb d_La_law_563 (by decide) (fun _ => ?_) (fun c9 => absurd (by first | exact hk | exact hk.symm | rfl) c9)
  refine lv_iload hx hb d_La_law_568 (lv_at hl 1 rfl) ?_
  refine lv_if_ne (tgt := 585) hx hb d_La_law_570 (by decide) (fun _ => ?_) (fun c8 => ?_)
  · refine lv_goto (tgt := 812) hx hb d_La_law_585 (by decide) ?_
    exact kk H locs ls hP hD hS (lv_sub hl [2, 3, 4, 5, 6] rfl)
  refine lv_aload_n hx hb d_La_law_573 rfl (lv_at hl 3 rfl) ?_
  refine lv_iconst (v := 0) hx hb d_La_law_574 (by decide) ?_
  refine va_lald hx hb hK (ok_left (ok_right hP)) 0 3 rfl rfl (vp_in_nI (n := 0) (by decide) (by decide)) d_La_law_575 ?_
  rw [lw_c0]
  refine lv_iload hx hb d_La_law_576 (lv_at hl 0 rfl) ?_
  refine lv_i2l hx hb d_La_law_578 rfl ?_
  refine W.lcmp hx hb d_La_law_579 ?_
  refine lv_if_eq (tgt := 585) hx hb d_La_law_580 (by decide) (fun _ => ?_) (fun c9 => absurd ((lg_cmp_eq _ _).mpr (hv c8)) c9)
  refine lv_goto (tgt := 812) hx hb d_La_law_585 (by decide) ?_
  exact kk H locs ls hP hD hS (lv_sub hl [2, 3, 4, 5, 6] rfl)
set_option maxHeartbeats 4000000 in
set_option maxRecDepth 100000 in
theorem lb_multiplier {b L j : Nat} {xs : Nat → Int32} {σ τ μ ν : oS} {fj : Nat → Int64} {k : Int32} (F : CallFix p m c code 7 s args (cw :: tt) RLa) (hK : va_K D vwCl (lt4 cI cL cZ cJ) s) (hZ : th_Z s) (hX : va_X b L xs s s.heap) (hbl : b < s.heap.size) (hA : ∀ q, s.heap.size ≤ q ↔ A q) (hL : L ≤ 2048) (hj : 4 * j + 4 ≤ L) (hR : cells + 1 ≤ R.cells ∧ slots + 6 ≤ R.slots ∧ 1001 ≤ R.frames ∧ 51000 ≤ R.locals)
    {rw : Room} (hrw : rw9 rw) (hw : ok_MW l y_La_multiplier (Cond.codeWith y_La_multiplier b_La_multiplier 4 (some .int) [((0 : Nat), (6 : Nat), (9 : Nat), (24 : Nat)), ((0 : Nat), (6 : Nat), (12 : Nat), (13 : Nat))] :: tt) rw D vwCl (lt3 cI cL cJ) (lo cJ o fj ++ ow cI cL ad σ) (lo cJ o fj ++ ow cI cL ad τ) [.ref (ad 0), .int (xs (4 * j + 1)), .int (xs (4 * j + 2))] (some (.int k)))
    {rm : Room} (hrm : rm9 rm) (hm : ok_MM l y_Mo_multiplier (Cond.code y_Mo_multiplier b_Mo_multiplier 4 none :: tt) rm D vwCl (mt cI cZ) (mw cI cZ am μ) (mw cI cZ am ν) [.ref (am 0), .int (xs (4 * j + 1)), .int (xs (4 * j + 2))] none)
    (hk : ν 0 0 0 = k)
    (hP : va_P D vwCl (mw cI cZ am μ ++ (lo cJ o fj ++ ow cI cL ad σ)) H) (hD : va_D A (mw cI cZ am μ ++ (lo cJ o fj ++ ow cI cL ad σ))) (hS : va_S A s.heap H locs) (hl : lv_has ls 7 [(4, .int (nI (4 * j))), (3, .ref o), (2, .ref (am 0)), (1, .ref (ad 0)), (0, .ref b)])
    (kk : ∀ (H : Heap) (locs : List Loc) (ls : Array Slot), va_P D vwCl (mw cI cZ am ν ++ (lo cJ o fj ++ ow cI cL ad τ)) H → va_D A (mw cI cZ am ν ++ (lo cJ o fj ++ ow cI cL ad τ)) → va_S A s.heap H locs → lv_has ls 7 [(4, .int (nI (4 * j))), (3, .ref o), (2, .ref (am 0)), (1, .ref (ad 0)), (0, .ref b)] → W p l e R s m args below meth c H locs (cells + 1) (slots + 6) Q (F0 m 812 ls [])) : W p l e R s m args below meth c H locs cells slots Q (F0 m 588 ls []) := by
  have hx := F.1
  have hb := F.2.1
  have hA9 : ∀ q, s.heap.size ≤ q → A q := fun q h => (hA q).mp h
  have hbA : ¬ A b := fun h => absurd ((hA b).mpr h) (Nat.not_le.mpr hbl)
  obtain ⟨hR1, hR2, hR3, hR4⟩ := hR
  obtain ⟨hm1, hm2, hm3, hm4⟩ := hrm
  obtain ⟨hw1, hw2, hw3, hw4⟩ := hrw
  have hZ9 : ∀ {H9 : Heap} {locs9 : List Loc}, va_S A s.heap H9 locs9 → ∀ U : State, U.heap = H9 → s.WarmedH U.vm → th_Z U := fun hS9 U hU hW9 => hZ.to hW9 (fun a c9 hc _ => by
    have ha := (Array.getElem?_eq_some_iff.mp hc).1
    rw [hU, hS9.2.1 a ha (fun h => absurd ((hA a).mpr h) (Nat.not_le.mpr ha))]; exact hc)
  refine lv_aload_n hx hb d_La_law_588 rfl (lv_at hl 3 rfl) ?_
  refine lv_aload_n hx hb d_La_law_589 rfl (lv_at hl 4 rfl) ?_
  refine lv_iload hx hb d_La_law_590 (lv_at hl 0 rfl) ?_
  refine lv_iconst (v := 1) hx hb d_La_law_592 (by decide) ?_
  refine lv_iadd hx hb d_La_law_593 ?_
  refine lw_sld F hX hbl hbA hS (k := 4 * j + 1) (nI_add (4 * j) 1) (by omega) hL d_La_law_594 ?_
  refine lv_aload_n hx hb d_La_law_595 rfl (lv_at hl 4 rfl) ?_
  refine lv_iload hx hb d_La_law_596 (lv_at hl 0 rfl) ?_
  refine lv_iconst (v := 2) hx hb d_La_law_598 (by decide) ?_
  refine lv_iadd hx hb d_La_law_599 ?_
  refine lw_sld F hX hbl hbA hS (k := 4 * j + 2) (nI_add (4 * j) 2) (by omega) hL d_La_law_600 ?_
  refine ok_SWF (bytes := b_La_multiplier) (maxL := 4) (wr := mw cI cZ am μ) (As := [.ref (ad 0), .int (xs (4 * j + 1)), .int (xs (4 * j + 2))]) (rest := []) F hw 3 (List.forall_mem_cons.mpr ⟨k_La_multiplier, fun _ h => h⟩) rfl (tt3 80 rfl rfl) s_La_multiplier in9_La ⟨hw1, hw2⟩ (by decide +kernel) ⟨by omega, by omega⟩ (hK.sub [0, 1, 3] rfl) (hZ9 hS) hP hD hS hA9 rfl hl.1 rfl (Nat.zero_le _) ⟨hR1, hR2⟩ d_La_law_601 (fun H locs hP hD hS => ?_)
  refine lv_istore (lv' := [(5, .int k), (4, .int (nI (4 * j))), (3, .ref o), (2, .ref (am 0)), (1, .ref (ad 0)), (0, .ref b)]) hx hb d_La_law_604 hl (by decide) rfl (fun ls hl => ?_)
  refine lv_aload_n hx hb d_La_law_606 rfl (lv_at hl 3 rfl) ?_
  refine lv_aload_n hx hb d_La_law_607 rfl (lv_at hl 5 rfl) ?_
  refine lv_iload hx hb d_La_law_608 (lv_at hl 1 rfl) ?_
  refine lv_iconst (v := 1) hx hb d_La_law_610 (by decide) ?_
  refine lv_iadd hx hb d_La_law_611 ?_
  refine lw_sld F hX hbl hbA hS (k := 4 * j + 1) (nI_add (4 * j) 1) (by omega) hL d_La_law_612 ?_
  refine lv_aload_n hx hb d_La_law_613 rfl (lv_at hl 5 rfl) ?_
  refine lv_iload hx hb d_La_law_614 (lv_at hl 1 rfl) ?_
  refine lv_iconst (v := 2) hx hb d_La_law_616 (by decide) ?_
  refine lv_iadd hx hb d_La_law_617 ?_
  refine lw_sld F hX hbl hbA hS (k := 4 * j + 2) (nI_add (4 * j) 2) (by omega) hL d_La_law_618 ?_
  have hP := ok_swapP hP
  have hD := ok_swapD hD
  refine ok_VMF (wr := lo cJ o fj ++ ow cI cL ad τ) (As := [.int (xs (4 * j + 1)), .int (xs (4 * j + 2))]) (rest := []) F hm 2 (tt_V (tt4 67 rfl rfl) i_Mo_multiplier l_Mo_multiplier in9_Mo k_Mo_multiplier) rfl ⟨hm1, hm2⟩ (by decide +kernel) ⟨by omega, by omega⟩ (hK.sub [0, 2] rfl) hP hD hS hA9 0 6 rfl rfl mw_0 rfl hl.1 rfl (by first | exact Nat.zero_le _ | exact Nat.le_of_ble_eq_true rfl) ⟨by omega, by omega⟩ d_La_law_619 (fun H locs hP hD hS => ?_)
  have hP := ok_swapP hP
  have hD := ok_swapD hD
  refine lv_aload_n hx hb d_La_law_622 rfl (lv_at hl 3 rfl) ?_
  refine x_Mo_thrown (ad := am) (cI := cI) (cZ := cZ) (D := D) F (tt3 219 rfl rfl) ⟨by omega, by omega⟩ (hK.sub [0, 2] rfl) (ok_left hP) hl.1 (Nat.zero_le _) ⟨by omega, by omega⟩ d_La_law_623 ?_
  refine lv_iload hx hb d_La_law_626 (lv_at hl 0 rfl) ?_
  refine lv_icmp_eq (tgt := 633) hx hb d_La_law_628 (by decide) (fun _ => ?_) (fun c9 => absurd (by first | exact hk | exact hk.symm | rfl) c9)
  refine lv_goto (tgt := 812) hx hb d_La_law_633 (by decide) ?_
  exact kk H locs ls hP hD hS (lv_sub hl [1, 2, 3, 4, 5] rfl)
set_option maxHeartbeats 4000000 in
set_option maxRecDepth 100000 in
theorem lb_certificate {b L j : Nat} {xs : Nat → Int32} {σ μ ν : oS} {fj : Nat → Int64} {v : Int64} (F : CallFix p m c code 7 s args (cw :: tt) RLa) (hK : va_K D vwCl (lt4 cI cL cZ cJ) s) (hZ : th_Z s) (hX : va_X b L xs s s.heap) (hbl : b < s.heap.size) (hA : ∀ q, s.heap.size ≤ q ↔ A q) (hL : L ≤ 2048) (hj : 4 * j + 4 ≤ L) (hR : cells + 1 ≤ R.cells ∧ slots + 6 ≤ R.slots ∧ 1001 ≤ R.frames ∧ 51000 ≤ R.locals)
    {rw : Room} (hrw : rm9 rw) (hw : ok_MR l y_OB_certificate (Cond.code y_OB_certificate b_OB_certificate 6 (some .long) :: tt) rw D vwCl (ot cI cL) (ow cI cL ad σ) [.ref (ad 0)] (some (.long v)))
    {rm : Room} (hrm : rm9 rm) (hm : ok_MM l y_Mo_certificate (Cond.code y_Mo_certificate b_Mo_certificate 7 (some .long) :: tt) rm D vwCl (mt cI cZ) (mw cI cZ am μ) (mw cI cZ am ν) [.ref (am 0)] (some (.long v)))
    (hP : va_P D vwCl (mw cI cZ am μ ++ (lo cJ o fj ++ ow cI cL ad σ)) H) (hD : va_D A (mw cI cZ am μ ++ (lo cJ o fj ++ ow cI cL ad σ))) (hS : va_S A s.heap H locs) (hl : lv_has ls 7 [(4, .int (nI (4 * j))), (3, .ref o), (2, .ref (am 0)), (1, .ref (ad 0)), (0, .ref b)])
    (kk : ∀ (H : Heap) (locs : List Loc) (ls : Array Slot), va_P D vwCl (mw cI cZ am ν ++ (lo cJ o fj ++ ow cI cL ad σ)) H → va_D A (mw cI cZ am ν ++ (lo cJ o fj ++ ow cI cL ad σ)) → va_S A s.heap H locs → lv_has ls 7 [(4, .int (nI (4 * j))), (3, .ref o), (2, .ref (am 0)), (1, .ref (ad 0)), (0, .ref b)] → W p l e R s m args below meth c H locs (cells + 1) (slots + 6) Q (F0 m 812 ls [])) : W p l e R s m args below meth c H locs cells slots Q (F0 m 636 ls []) := by
  have hx := F.1
  have hb := F.2.1
  have hA9 : ∀ q, s.heap.size ≤ q → A q := fun q h => (hA q).mp h
  have hbA : ¬ A b := fun h => absurd ((hA b).mpr h) (Nat.not_le.mpr hbl)
  obtain ⟨hR1, hR2, hR3, hR4⟩ := hR
  obtain ⟨hm1, hm2, hm3, hm4⟩ := hrm
  obtain ⟨hw1, hw2, hw3, hw4⟩ := hrw
  have hZ9 : ∀ {H9 : Heap} {locs9 : List Loc}, va_S A s.heap H9 locs9 → ∀ U : State, U.heap = H9 → s.WarmedH U.vm → th_Z U := fun hS9 U hU hW9 => hZ.to hW9 (fun a c9 hc _ => by
    have ha := (Array.getElem?_eq_some_iff.mp hc).1
    rw [hU, hS9.2.1 a ha (fun h => absurd ((hA a).mpr h) (Nat.not_le.mpr ha))]; exact hc)
  refine lv_aload_n hx hb d_La_law_636 rfl (lv_at hl 3 rfl) ?_
  refine ok_VR (As := []) (rest := []) F hw 0 (tt_V (tt1 150 rfl rfl) i_OB_certificate l_OB_certificate in9_OB k_OB_certificate) rfl ⟨hw1, hw2⟩ (by decide +kernel) ⟨by omega, by omega⟩ (hK.sub [0, 1] rfl) (ok_right (ok_right hP)) 0 5 rfl rfl ow_0 rfl hl.1 rfl (Nat.zero_le _) ⟨by omega, by omega⟩ d_La_law_637 ?_
  refine lv_aload_n hx hb d_La_law_640 rfl (lv_at hl 2 rfl) ?_
  have hP := ok_swapP hP
  have hD := ok_swapD hD
  refine ok_VMF (wr := lo cJ o fj ++ ow cI cL ad σ) (As := []) (rest := [.long v]) F hm 0 (tt_V (tt4 73 rfl rfl) i_Mo_certificate l_Mo_certificate in9_Mo k_Mo_certificate) rfl ⟨hm1, hm2⟩ (by decide +kernel) ⟨by omega, by omega⟩ (hK.sub [0, 2] rfl) hP hD hS hA9 0 6 rfl rfl mw_0 rfl hl.1 rfl (by first | exact Nat.zero_le _ | exact Nat.le_of_ble_eq_true rfl) ⟨by omega, by omega⟩ d_La_law_641 (fun H locs hP hD hS => ?_)
  have hP := ok_swapP hP
  have hD := ok_swapD hD
  refine W.lcmp hx hb d_La_law_644 ?_
  refine lv_if_eq (tgt := 812) hx hb d_La_law_645 (by decide) (fun _ => ?_) (fun c9 => absurd ((lg_cmp_eq _ _).mpr rfl) c9)
  refine W.widen (Nat.le_succ _) (Nat.le_add_right _ 6) ?_
  exact kk H locs ls hP hD hS (lv_sub hl [0, 1, 2, 3, 4] rfl)
set_option maxHeartbeats 4000000 in
set_option maxRecDepth 100000 in
theorem lb_contradiction {b L j : Nat} {xs : Nat → Int32} {σ μ ν : oS} {fj : Nat → Int64} {v : Int32} (F : CallFix p m c code 7 s args (cw :: tt) RLa) (hK : va_K D vwCl (lt4 cI cL cZ cJ) s) (hZ : th_Z s) (hX : va_X b L xs s s.heap) (hbl : b < s.heap.size) (hA : ∀ q, s.heap.size ≤ q ↔ A q) (hL : L ≤ 2048) (hj : 4 * j + 4 ≤ L) (hR : cells + 1 ≤ R.cells ∧ slots + 6 ≤ R.slots ∧ 1001 ≤ R.frames ∧ 51000 ≤ R.locals)
    {rw : Room} (hrw : rm9 rw) (hw : ok_MR l y_OB_contradiction (Cond.code y_OB_contradiction b_OB_contradiction 2 (some .int) :: tt) rw D vwCl (ot cI cL) (ow cI cL ad σ) [.ref (ad 0)] (some (.int v)))
    {rm : Room} (hrm : rm9 rm) (hm : ok_MM l y_Mo_contradiction (Cond.code y_Mo_contradiction b_Mo_contradiction 2 (some .int) :: tt) rm D vwCl (mt cI cZ) (mw cI cZ am μ) (mw cI cZ am ν) [.ref (am 0)] (some (.int v)))
    (hP : va_P D vwCl (mw cI cZ am μ ++ (lo cJ o fj ++ ow cI cL ad σ)) H) (hD : va_D A (mw cI cZ am μ ++ (lo cJ o fj ++ ow cI cL ad σ))) (hS : va_S A s.heap H locs) (hl : lv_has ls 7 [(4, .int (nI (4 * j))), (3, .ref o), (2, .ref (am 0)), (1, .ref (ad 0)), (0, .ref b)])
    (kk : ∀ (H : Heap) (locs : List Loc) (ls : Array Slot), va_P D vwCl (mw cI cZ am ν ++ (lo cJ o fj ++ ow cI cL ad σ)) H → va_D A (mw cI cZ am ν ++ (lo cJ o fj ++ ow cI cL ad σ)) → va_S A s.heap H locs → lv_has ls 7 [(4, .int (nI (4 * j))), (3, .ref o), (2, .ref (am 0)), (1, .ref (ad 0)), (0, .ref b)] → W p l e R s m args below meth c H locs (cells + 1) (slots + 6) Q (F0 m 812 ls [])) : W p l e R s m args below meth c H locs cells slots Q (F0 m 650 ls []) := by
  have hx := F.1
  have hb := F.2.1
  have hA9 : ∀ q, s.heap.size ≤ q → A q := fun q h => (hA q).mp h
  have hbA : ¬ A b := fun h => absurd ((hA b).mpr h) (Nat.not_le.mpr hbl)
  obtain ⟨hR1, hR2, hR3, hR4⟩ := hR
  obtain ⟨hm1, hm2, hm3, hm4⟩ := hrm
  obtain ⟨hw1, hw2, hw3, hw4⟩ := hrw
  have hZ9 : ∀ {H9 : Heap} {locs9 : List Loc}, va_S A s.heap H9 locs9 → ∀ U : State, U.heap = H9 → s.WarmedH U.vm → th_Z U := fun hS9 U hU hW9 => hZ.to hW9 (fun a c9 hc _ => by
    have ha := (Array.getElem?_eq_some_iff.mp hc).1
    rw [hU, hS9.2.1 a ha (fun h => absurd ((hA a).mpr h) (Nat.not_le.mpr ha))]; exact hc)
  refine lv_aload_n hx hb d_La_law_650 rfl (lv_at hl 3 rfl) ?_
  refine ok_VR (As := []) (rest := []) F hw 0 (tt_V (tt1 198 rfl rfl) i_OB_contradiction l_OB_contradiction in9_OB k_OB_contradiction) rfl ⟨hw1, hw2⟩ (by decide +kernel) ⟨by omega, by omega⟩ (hK.sub [0, 1] rfl) (ok_right (ok_right hP)) 0 5 rfl rfl ow_0 rfl hl.1 rfl (Nat.zero_le _) ⟨by omega, by omega⟩ d_La_law_651 ?_
  refine lv_aload_n hx hb d_La_law_654 rfl (lv_at hl 2 rfl) ?_
  have hP := ok_swapP hP
  have hD := ok_swapD hD
  refine ok_VMF (wr := lo cJ o fj ++ ow cI cL ad σ) (As := []) (rest := [.int v]) F hm 0 (tt_V (tt4 78 rfl rfl) i_Mo_contradiction l_Mo_contradiction in9_Mo k_Mo_contradiction) rfl ⟨hm1, hm2⟩ (by decide +kernel) ⟨by omega, by omega⟩ (hK.sub [0, 2] rfl) hP hD hS hA9 0 6 rfl rfl mw_0 rfl hl.1 rfl (by first | exact Nat.zero_le _ | exact Nat.le_of_ble_eq_true rfl) ⟨by omega, by omega⟩ d_La_law_655 (fun H locs hP hD hS => ?_)
  have hP := ok_swapP hP
  have hD := ok_swapD hD
  refine lv_icmp_eq (tgt := 812) hx hb d_La_law_658 (by decide) (fun _ => ?_) (fun c9 => absurd rfl c9)
  refine W.widen (Nat.le_succ _) (Nat.le_add_right _ 6) ?_
  exact kk H locs ls hP hD hS (lv_sub hl [0, 1, 2, 3, 4] rfl)
set_option maxHeartbeats 4000000 in
set_option maxRecDepth 100000 in
theorem lb_check {b L j : Nat} {xs : Nat → Int32} {σ μ ν : oS} {fj : Nat → Int64} {v : Int32} (F : CallFix p m c code 7 s args (cw :: tt) RLa) (hK : va_K D vwCl (lt4 cI cL cZ cJ) s) (hZ : th_Z s) (hX : va_X b L xs s s.heap) (hbl : b < s.heap.size) (hA : ∀ q, s.heap.size ≤ q ↔ A q) (hL : L ≤ 2048) (hj : 4 * j + 4 ≤ L) (hR : cells + 1 ≤ R.cells ∧ slots + 6 ≤ R.slots ∧ 1001 ≤ R.frames ∧ 51000 ≤ R.locals)
    {rw : Room} (hrw : rm9 rw) (hw : ok_MR l y_OB_check (Cond.code y_OB_check b_OB_check 3 (some .int) :: tt) rw D vwCl (ot cI cL) (ow cI cL ad σ) [.ref (ad 0), .int (xs (4 * j + 1))] (some (.int v)))
    {rm : Room} (hrm : rm9 rm) (hm : ok_MM l y_Mo_check (Cond.code y_Mo_check b_Mo_check 3 (some .int) :: tt) rm D vwCl (mt cI cZ) (mw cI cZ am μ) (mw cI cZ am ν) [.ref (am 0), .int (xs (4 * j + 1))] (some (.int v)))
    (hP : va_P D vwCl (mw cI cZ am μ ++ (lo cJ o fj ++ ow cI cL ad σ)) H) (hD : va_D A (mw cI cZ am μ ++ (lo cJ o fj ++ ow cI cL ad σ))) (hS : va_S A s.heap H locs) (hl : lv_has ls 7 [(4, .int (nI (4 * j))), (3, .ref o), (2, .ref (am 0)), (1, .ref (ad 0)), (0, .ref b)])
    (kk : ∀ (H : Heap) (locs : List Loc) (ls : Array Slot), va_P D vwCl (mw cI cZ am ν ++ (lo cJ o fj ++ ow cI cL ad σ)) H → va_D A (mw cI cZ am ν ++ (lo cJ o fj ++ ow cI cL ad σ)) → va_S A s.heap H locs → lv_has ls 7 [(4, .int (nI (4 * j))), (3, .ref o), (2, .ref (am 0)), (1, .ref (ad 0)), (0, .ref b)] → W p l e R s m args below meth c H locs (cells + 1) (slots + 6) Q (F0 m 812 ls [])) : W p l e R s m args below meth c H locs cells slots Q (F0 m 663 ls []) := by
  have hx := F.1
  have hb := F.2.1
  have hA9 : ∀ q, s.heap.size ≤ q → A q := fun q h => (hA q).mp h
  have hbA : ¬ A b := fun h => absurd ((hA b).mpr h) (Nat.not_le.mpr hbl)
  obtain ⟨hR1, hR2, hR3, hR4⟩ := hR
  obtain ⟨hm1, hm2, hm3, hm4⟩ := hrm
  obtain ⟨hw1, hw2, hw3, hw4⟩ := hrw
  have hZ9 : ∀ {H9 : Heap} {locs9 : List Loc}, va_S A s.heap H9 locs9 → ∀ U : State, U.heap = H9 → s.WarmedH U.vm → th_Z U := fun hS9 U hU hW9 => hZ.to hW9 (fun a c9 hc _ => by
    have ha := (Array.getElem?_eq_some_iff.mp hc).1
    rw [hU, hS9.2.1 a ha (fun h => absurd ((hA a).mpr h) (Nat.not_le.mpr ha))]; exact hc)
  refine lv_aload_n hx hb d_La_law_663 rfl (lv_at hl 3 rfl) ?_
  refine lv_aload_n hx hb d_La_law_664 rfl (lv_at hl 4 rfl) ?_
  refine lv_iload hx hb d_La_law_665 (lv_at hl 0 rfl) ?_
  refine lv_iconst (v := 1) hx hb d_La_law_667 (by decide) ?_
  refine lv_iadd hx hb d_La_law_668 ?_
  refine lw_sld F hX hbl hbA hS (k := 4 * j + 1) (nI_add (4 * j) 1) (by omega) hL d_La_law_669 ?_
  refine ok_VR (As := [.int (xs (4 * j + 1))]) (rest := []) F hw 1 (tt_V (tt1 224 rfl rfl) i_OB_check l_OB_check in9_OB k_OB_check) rfl ⟨hw1, hw2⟩ (by decide +kernel) ⟨by omega, by omega⟩ (hK.sub [0, 1] rfl) (ok_right (ok_right hP)) 0 5 rfl rfl ow_0 rfl hl.1 rfl (Nat.zero_le _) ⟨by omega, by omega⟩ d_La_law_670 ?_
  refine lv_aload_n hx hb d_La_law_673 rfl (lv_at hl 2 rfl) ?_
  refine lv_aload_n hx hb d_La_law_674 rfl (lv_at hl 4 rfl) ?_
  refine lv_iload hx hb d_La_law_675 (lv_at hl 0 rfl) ?_
  refine lv_iconst (v := 1) hx hb d_La_law_677 (by decide) ?_
  refine lv_iadd hx hb d_La_law_678 ?_
  refine lw_sld F hX hbl hbA hS (k := 4 * j + 1) (nI_add (4 * j) 1) (by omega) hL d_La_law_679 ?_
  have hP := ok_swapP hP
  have hD := ok_swapD hD
  refine ok_VMF (wr := lo cJ o fj ++ ow cI cL ad σ) (As := [.int (xs (4 * j + 1))]) (rest := [.int v]) F hm 1 (tt_V (tt4 82 rfl rfl) i_Mo_check l_Mo_check in9_Mo k_Mo_check) rfl ⟨hm1, hm2⟩ (by decide +kernel) ⟨by omega, by omega⟩ (hK.sub [0, 2] rfl) hP hD hS hA9 0 6 rfl rfl mw_0 rfl hl.1 rfl (by first | exact Nat.zero_le _ | exact Nat.le_of_ble_eq_true rfl) ⟨by omega, by omega⟩ d_La_law_680 (fun H locs hP hD hS => ?_)
  have hP := ok_swapP hP
  have hD := ok_swapD hD
  refine lv_icmp_eq (tgt := 812) hx hb d_La_law_683 (by decide) (fun _ => ?_) (fun c9 => absurd rfl c9)
  refine W.widen (Nat.le_succ _) (Nat.le_add_right _ 6) ?_
  exact kk H locs ls hP hD hS (lv_sub hl [0, 1, 2, 3, 4] rfl)
set_option maxHeartbeats 4000000 in
set_option maxRecDepth 100000 in
theorem lb_follow {b L j : Nat} {xs : Nat → Int32} {σ τ μ ν : oS} {fj fk : Nat → Int64} {k : Int32} {v : Int32} (F : CallFix p m c code 7 s args (cw :: tt) RLa) (hK : va_K D vwCl (lt4 cI cL cZ cJ) s) (hZ : th_Z s) (hX : va_X b L xs s s.heap) (hbl : b < s.heap.size) (hA : ∀ q, s.heap.size ≤ q ↔ A q) (hL : L ≤ 2048) (hj : 4 * j + 4 ≤ L) (hR : cells + 1 ≤ R.cells ∧ slots + 6 ≤ R.slots ∧ 1001 ≤ R.frames ∧ 51000 ≤ R.locals)
    {rw : Room} (hrw : rw9 rw) (hw : ok_MW l y_La_follow (Cond.codeWith y_La_follow b_La_follow 5 (some .int) [((0 : Nat), (10 : Nat), (13 : Nat), (24 : Nat)), ((0 : Nat), (10 : Nat), (17 : Nat), (15 : Nat))] :: tt) rw D vwCl (lt3 cI cL cJ) (lo cJ o fj ++ ow cI cL ad σ) (lo cJ o fk ++ ow cI cL ad τ) [.ref (ad 0), .int (xs (4 * j + 1)), .int (xs (4 * j + 2)), .ref o] (some (.int k)))
    {rm : Room} (hrm : rm9 rm) (hm : ok_MM l y_Mo_follow (Cond.code y_Mo_follow b_Mo_follow 4 (some .int) :: tt) rm D vwCl (mt cI cZ) (mw cI cZ am μ) (mw cI cZ am ν) [.ref (am 0), .int (xs (4 * j + 1)), .int (xs (4 * j + 2))] (some (.int v)))
    (hk : ν 0 0 0 = k)
    (hv : k = 0 → fk 0 = Int32.toInt64 v)
    (hP : va_P D vwCl (mw cI cZ am μ ++ (lo cJ o fj ++ ow cI cL ad σ)) H) (hD : va_D A (mw cI cZ am μ ++ (lo cJ o fj ++ ow cI cL ad σ))) (hS : va_S A s.heap H locs) (hl : lv_has ls 7 [(4, .int (nI (4 * j))), (3, .ref o), (2, .ref (am 0)), (1, .ref (ad 0)), (0, .ref b)])
    (kk : ∀ (H : Heap) (locs : List Loc) (ls : Array Slot), va_P D vwCl (mw cI cZ am ν ++ (lo cJ o fk ++ ow cI cL ad τ)) H → va_D A (mw cI cZ am ν ++ (lo cJ o fk ++ ow cI cL ad τ)) → va_S A s.heap H locs → lv_has ls 7 [(4, .int (nI (4 * j))), (3, .ref o), (2, .ref (am 0)), (1, .ref (ad 0)), (0, .ref b)] → W p l e R s m args below meth c H locs (cells + 1) (slots + 6) Q (F0 m 812 ls [])) : W p l e R s m args below meth c H locs cells slots Q (F0 m 688 ls []) := by
  have hx := F.1
  have hb := F.2.1
  have hA9 : ∀ q, s.heap.size ≤ q → A q := fun q h => (hA q).mp h
  have hbA : ¬ A b := fun h => absurd ((hA b).mpr h) (Nat.not_le.mpr hbl)
  obtain ⟨hR1, hR2, hR3, hR4⟩ := hR
  obtain ⟨hm1, hm2, hm3, hm4⟩ := hrm
  obtain ⟨hw1, hw2, hw3, hw4⟩ := hrw
  have hZ9 : ∀ {H9 : Heap} {locs9 : List Loc}, va_S A s.heap H9 locs9 → ∀ U : State, U.heap = H9 → s.WarmedH U.vm → th_Z U := fun hS9 U hU hW9 => hZ.to hW9 (fun a c9 hc _ => by
    have ha := (Array.getElem?_eq_some_iff.mp hc).1
    rw [hU, hS9.2.1 a ha (fun h => absurd ((hA a).mpr h) (Nat.not_le.mpr ha))]; exact hc)
  refine lv_aload_n hx hb d_La_law_688 rfl (lv_at hl 3 rfl) ?_
  refine lv_aload_n hx hb d_La_law_689 rfl (lv_at hl 4 rfl) ?_
  refine lv_iload hx hb d_La_law_690 (lv_at hl 0 rfl) ?_
  refine lv_iconst (v := 1) hx hb d_La_law_692 (by decide) ?_
  refine lv_iadd hx hb d_La_law_693 ?_
  refine lw_sld F hX hbl hbA hS (k := 4 * j + 1) (nI_add (4 * j) 1) (by omega) hL d_La_law_694 ?_
  refine lv_aload_n hx hb d_La_law_695 rfl (lv_at hl 4 rfl) ?_
  refine lv_iload hx hb d_La_law_696 (lv_at hl 0 rfl) ?_
  refine lv_iconst (v := 2) hx hb d_La_law_698 (by decide) ?_
  refine lv_iadd hx hb d_La_law_699 ?_
  refine lw_sld F hX hbl hbA hS (k := 4 * j + 2) (nI_add (4 * j) 2) (by omega) hL d_La_law_700 ?_
  refine lv_aload_n hx hb d_La_law_701 rfl (lv_at hl 1 rfl) ?_
  refine ok_SWF (bytes := b_La_follow) (maxL := 5) (wr := mw cI cZ am μ) (As := [.ref (ad 0), .int (xs (4 * j + 1)), .int (xs (4 * j + 2)), .ref o]) (rest := []) F hw 4 (List.forall_mem_cons.mpr ⟨k_La_follow, fun _ h => h⟩) rfl (tt3 96 rfl rfl) s_La_follow in9_La ⟨hw1, hw2⟩ (by decide +kernel) ⟨by omega, by omega⟩ (hK.sub [0, 1, 3] rfl) (hZ9 hS) hP hD hS hA9 rfl hl.1 rfl (Nat.zero_le _) ⟨hR1, hR2⟩ d_La_law_702 (fun H locs hP hD hS => ?_)
  refine lv_istore (lv' := [(5, .int k), (4, .int (nI (4 * j))), (3, .ref o), (2, .ref (am 0)), (1, .ref (ad 0)), (0, .ref b)]) hx hb d_La_law_705 hl (by decide) rfl (fun ls hl => ?_)
  refine lv_aload_n hx hb d_La_law_707 rfl (lv_at hl 3 rfl) ?_
  refine lv_aload_n hx hb d_La_law_708 rfl (lv_at hl 5 rfl) ?_
  refine lv_iload hx hb d_La_law_709 (lv_at hl 1 rfl) ?_
  refine lv_iconst (v := 1) hx hb d_La_law_711 (by decide) ?_
  refine lv_iadd hx hb d_La_law_712 ?_
  refine lw_sld F hX hbl hbA hS (k := 4 * j + 1) (nI_add (4 * j) 1) (by omega) hL d_La_law_713 ?_
  refine lv_aload_n hx hb d_La_law_714 rfl (lv_at hl 5 rfl) ?_
  refine lv_iload hx hb d_La_law_715 (lv_at hl 1 rfl) ?_
  refine lv_iconst (v := 2) hx hb d_La_law_717 (by decide) ?_
  refine lv_iadd hx hb d_La_law_718 ?_
  refine lw_sld F hX hbl hbA hS (k := 4 * j + 2) (nI_add (4 * j) 2) (by omega) hL d_La_law_719 ?_
  have hP := ok_swapP hP
  have hD := ok_swapD hD
  refine ok_VMF (wr := lo cJ o fk ++ ow cI cL ad τ) (As := [.int (xs (4 * j + 1)), .int (xs (4 * j + 2))]) (rest := []) F hm 2 (tt_V (tt4 86 rfl rfl) i_Mo_follow l_Mo_follow in9_Mo k_Mo_follow) rfl ⟨hm1, hm2⟩ (by decide +kernel) ⟨by omega, by omega⟩ (hK.sub [0, 2] rfl) hP hD hS hA9 0 6 rfl rfl mw_0 rfl hl.1 rfl (by first | exact Nat.zero_le _ | exact Nat.le_of_ble_eq_true rfl) ⟨by omega, by omega⟩ d_La_law_720 (fun H locs hP hD hS => ?_)
  have hP := ok_swapP hP
  have hD := ok_swapD hD
  refine lv_istore (lv' := [(6, .int v), (5, .int k), (4, .int (nI (4 * j))), (3, .ref o), (2, .ref (am 0)), (1, .ref (ad 0)), (0, .ref b)]) hx hb d_La_law_723 hl (by decide) rfl (fun ls hl => ?_)
  refine lv_aload_n hx hb d_La_law_725 rfl (lv_at hl 4 rfl) ?_
  refine x_Mo_thrown (ad := am) (cI := cI) (cZ := cZ) (D := D) F (tt3 219 rfl rfl) ⟨by omega, by omega⟩ (hK.sub [0, 2] rfl) (ok_left hP) hl.1 (Nat.zero_le _) ⟨by omega, by omega⟩ d_La_law_726 ?_
  refine lv_iload hx hb d_La_law_729 (lv_at hl 1 rfl) ?_
  refine lv_icmp_eq (tgt := 736) hx hb d_La_law_731 (by decide) (fun _ => ?_) (fun c9 => absurd (by first | exact hk | exact hk.symm | rfl) c9)
  refine lv_iload hx hb d_La_law_736 (lv_at hl 1 rfl) ?_
  refine lv_if_ne (tgt := 753) hx hb d_La_law_738 (by decide) (fun _ => ?_) (fun c8 => ?_)
  · refine lv_goto (tgt := 812) hx hb d_La_law_753 (by decide) ?_
    exact kk H locs ls hP hD hS (lv_sub hl [2, 3, 4, 5, 6] rfl)
  refine lv_aload_n hx hb d_La_law_741 rfl (lv_at hl 3 rfl) ?_
  refine lv_iconst (v := 0) hx hb d_La_law_742 (by decide) ?_
  refine va_lald hx hb hK (ok_left (ok_right hP)) 0 3 rfl rfl (vp_in_nI (n := 0) (by decide) (by decide)) d_La_law_743 ?_
  rw [lw_c0]
  refine lv_iload hx hb d_La_law_744 (lv_at hl 0 rfl) ?_
  refine lv_i2l hx hb d_La_law_746 rfl ?_
  refine W.lcmp hx hb d_La_law_747 ?_
  refine lv_if_eq (tgt := 753) hx hb d_La_law_748 (by decide) (fun _ => ?_) (fun c9 => absurd ((lg_cmp_eq _ _).mpr (hv c8)) c9)
  refine lv_goto (tgt := 812) hx hb d_La_law_753 (by decide) ?_
  exact kk H locs ls hP hD hS (lv_sub hl [2, 3, 4, 5, 6] rfl)
set_option maxHeartbeats 4000000 in
set_option maxRecDepth 100000 in
theorem lb_chain {b L j : Nat} {xs : Nat → Int32} {σ τ μ ν : oS} {fj fk : Nat → Int64} {k : Int32} {v : Int32} (F : CallFix p m c code 7 s args (cw :: tt) RLa) (hK : va_K D vwCl (lt4 cI cL cZ cJ) s) (hZ : th_Z s) (hX : va_X b L xs s s.heap) (hbl : b < s.heap.size) (hA : ∀ q, s.heap.size ≤ q ↔ A q) (hL : L ≤ 2048) (hj : 4 * j + 4 ≤ L) (hR : cells + 1 ≤ R.cells ∧ slots + 6 ≤ R.slots ∧ 1001 ≤ R.frames ∧ 51000 ≤ R.locals)
    {rw : Room} (hrw : rw9 rw) (hw : ok_MW l y_La_chain (Cond.codeWith y_La_chain b_La_chain 4 (some .int) [((0 : Nat), (9 : Nat), (12 : Nat), (24 : Nat))] :: tt) rw D vwCl (lt3 cI cL cJ) (lo cJ o fj ++ ow cI cL ad σ) (lo cJ o fk ++ ow cI cL ad τ) [.ref (ad 0), .int (xs (4 * j + 1)), .ref o] (some (.int k)))
    {rm : Room} (hrm : rm9 rm) (hm : ok_MM l y_Mo_chain (Cond.code y_Mo_chain b_Mo_chain 5 (some .int) :: tt) rm D vwCl (mt cI cZ) (mw cI cZ am μ) (mw cI cZ am ν) [.ref (am 0), .int (xs (4 * j + 1))] (some (.int v)))
    (hk : ν 0 0 0 = k)
    (hv : k = 0 → fk 0 = Int32.toInt64 v)
    (hP : va_P D vwCl (mw cI cZ am μ ++ (lo cJ o fj ++ ow cI cL ad σ)) H) (hD : va_D A (mw cI cZ am μ ++ (lo cJ o fj ++ ow cI cL ad σ))) (hS : va_S A s.heap H locs) (hl : lv_has ls 7 [(4, .int (nI (4 * j))), (3, .ref o), (2, .ref (am 0)), (1, .ref (ad 0)), (0, .ref b)])
    (kk : ∀ (H : Heap) (locs : List Loc) (ls : Array Slot), va_P D vwCl (mw cI cZ am ν ++ (lo cJ o fk ++ ow cI cL ad τ)) H → va_D A (mw cI cZ am ν ++ (lo cJ o fk ++ ow cI cL ad τ)) → va_S A s.heap H locs → lv_has ls 7 [(4, .int (nI (4 * j))), (3, .ref o), (2, .ref (am 0)), (1, .ref (ad 0)), (0, .ref b)] → W p l e R s m args below meth c H locs (cells + 1) (slots + 6) Q (F0 m 812 ls [])) : W p l e R s m args below meth c H locs cells slots Q (F0 m 756 ls []) := by
  have hx := F.1
  have hb := F.2.1
  have hA9 : ∀ q, s.heap.size ≤ q → A q := fun q h => (hA q).mp h
  have hbA : ¬ A b := fun h => absurd ((hA b).mpr h) (Nat.not_le.mpr hbl)
  obtain ⟨hR1, hR2, hR3, hR4⟩ := hR
  obtain ⟨hm1, hm2, hm3, hm4⟩ := hrm
  obtain ⟨hw1, hw2, hw3, hw4⟩ := hrw
  have hZ9 : ∀ {H9 : Heap} {locs9 : List Loc}, va_S A s.heap H9 locs9 → ∀ U : State, U.heap = H9 → s.WarmedH U.vm → th_Z U := fun hS9 U hU hW9 => hZ.to hW9 (fun a c9 hc _ => by
    have ha := (Array.getElem?_eq_some_iff.mp hc).1
    rw [hU, hS9.2.1 a ha (fun h => absurd ((hA a).mpr h) (Nat.not_le.mpr ha))]; exact hc)
  refine lv_aload_n hx hb d_La_law_756 rfl (lv_at hl 3 rfl) ?_
  refine lv_aload_n hx hb d_La_law_757 rfl (lv_at hl 4 rfl) ?_
  refine lv_iload hx hb d_La_law_758 (lv_at hl 0 rfl) ?_
  refine lv_iconst (v := 1) hx hb d_La_law_760 (by decide) ?_
  refine lv_iadd hx hb d_La_law_761 ?_
  refine lw_sld F hX hbl hbA hS (k := 4 * j + 1) (nI_add (4 * j) 1) (by omega) hL d_La_law_762 ?_
  refine lv_aload_n hx hb d_La_law_763 rfl (lv_at hl 1 rfl) ?_
  refine ok_SWF (bytes := b_La_chain) (maxL := 4) (wr := mw cI cZ am μ) (As := [.ref (ad 0), .int (xs (4 * j + 1)), .ref o]) (rest := []) F hw 3 (List.forall_mem_cons.mpr ⟨k_La_chain, fun _ h => h⟩) rfl (tt3 120 rfl rfl) s_La_chain in9_La ⟨hw1, hw2⟩ (by decide +kernel) ⟨by omega, by omega⟩ (hK.sub [0, 1, 3] rfl) (hZ9 hS) hP hD hS hA9 rfl hl.1 rfl (Nat.zero_le _) ⟨hR1, hR2⟩ d_La_law_764 (fun H locs hP hD hS => ?_)
  refine lv_istore (lv' := [(5, .int k), (4, .int (nI (4 * j))), (3, .ref o), (2, .ref (am 0)), (1, .ref (ad 0)), (0, .ref b)]) hx hb d_La_law_767 hl (by decide) rfl (fun ls hl => ?_)
  refine lv_aload_n hx hb d_La_law_769 rfl (lv_at hl 3 rfl) ?_
  refine lv_aload_n hx hb d_La_law_770 rfl (lv_at hl 5 rfl) ?_
  refine lv_iload hx hb d_La_law_771 (lv_at hl 1 rfl) ?_
  refine lv_iconst (v := 1) hx hb d_La_law_773 (by decide) ?_
  refine lv_iadd hx hb d_La_law_774 ?_
  refine lw_sld F hX hbl hbA hS (k := 4 * j + 1) (nI_add (4 * j) 1) (by omega) hL d_La_law_775 ?_
  have hP := ok_swapP hP
  have hD := ok_swapD hD
  refine ok_VMF (wr := lo cJ o fk ++ ow cI cL ad τ) (As := [.int (xs (4 * j + 1))]) (rest := []) F hm 1 (tt_V (tt4 90 rfl rfl) i_Mo_chain l_Mo_chain in9_Mo k_Mo_chain) rfl ⟨hm1, hm2⟩ (by decide +kernel) ⟨by omega, by omega⟩ (hK.sub [0, 2] rfl) hP hD hS hA9 0 6 rfl rfl mw_0 rfl hl.1 rfl (by first | exact Nat.zero_le _ | exact Nat.le_of_ble_eq_true rfl) ⟨by omega, by omega⟩ d_La_law_776 (fun H locs hP hD hS => ?_)
  have hP := ok_swapP hP
  have hD := ok_swapD hD
  refine lv_istore (lv' := [(6, .int v), (5, .int k), (4, .int (nI (4 * j))), (3, .ref o), (2, .ref (am 0)), (1, .ref (ad 0)), (0, .ref b)]) hx hb d_La_law_779 hl (by decide) rfl (fun ls hl => ?_)
  refine lv_aload_n hx hb d_La_law_781 rfl (lv_at hl 4 rfl) ?_
  refine x_Mo_thrown (ad := am) (cI := cI) (cZ := cZ) (D := D) F (tt3 219 rfl rfl) ⟨by omega, by omega⟩ (hK.sub [0, 2] rfl) (ok_left hP) hl.1 (Nat.zero_le _) ⟨by omega, by omega⟩ d_La_law_782 ?_
  refine lv_iload hx hb d_La_law_785 (lv_at hl 1 rfl) ?_
  refine lv_icmp_eq (tgt := 792) hx hb d_La_law_787 (by decide) (fun _ => ?_) (fun c9 => absurd (by first | exact hk | exact hk.symm | rfl) c9)
  refine lv_iload hx hb d_La_law_792 (lv_at hl 1 rfl) ?_
  refine lv_if_ne (tgt := 809) hx hb d_La_law_794 (by decide) (fun _ => ?_) (fun c8 => ?_)
  · refine lv_goto (tgt := 812) hx hb d_La_law_809 (by decide) ?_
    exact kk H locs ls hP hD hS (lv_sub hl [2, 3, 4, 5, 6] rfl)
  refine lv_aload_n hx hb d_La_law_797 rfl (lv_at hl 3 rfl) ?_
  refine lv_iconst (v := 0) hx hb d_La_law_798 (by decide) ?_
  refine va_lald hx hb hK (ok_left (ok_right hP)) 0 3 rfl rfl (vp_in_nI (n := 0) (by decide) (by decide)) d_La_law_799 ?_
  rw [lw_c0]
  refine lv_iload hx hb d_La_law_800 (lv_at hl 0 rfl) ?_
  refine lv_i2l hx hb d_La_law_802 rfl ?_
  refine W.lcmp hx hb d_La_law_803 ?_
  refine lv_if_eq (tgt := 809) hx hb d_La_law_804 (by decide) (fun _ => ?_) (fun c9 => absurd ((lg_cmp_eq _ _).mpr (hv c8)) c9)
  refine lv_goto (tgt := 812) hx hb d_La_law_809 (by decide) ?_
  exact kk H locs ls hP hD hS (lv_sub hl [2, 3, 4, 5, 6] rfl)
end
