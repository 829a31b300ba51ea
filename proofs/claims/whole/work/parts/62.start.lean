def R_law : String := "OrderBoundsLaw"
def lw_P (b : Addr) (xs : List Int32) (args : Array Value) (s : State) : Prop := args = #[.ref b] ∧ s.IntsAt b xs ∧ xs.length ≤ 2048 ∧ (Jvm.Cond.and given_1 narrow_1).before args s = true
def lw_Q (_ : Array Value) (s : State) (o : Outcome) (t : State) : Prop := o = .returned (some (.int 1)) ∧ Framed s o t [] 673281 7076262
def lw_Z (below : List Frame) (a : Array Value) (s : State) : State → Prop := fun t => ∃ o, t.status = .running ∧ Ended t below o ∧ lw_Q a s o t
/-- the law's own end, with 1 on the stack, nothing written that was there before, its room as the claim has it -/
theorem lw_ret {p : Program} {l : Launch} {e : Env} {s : State} {m : MethodId} {below : List Frame} {meth : Method} {c : Code} {b : Nat} (hx : p.tables.exec = Jvm.exec) (hb : c.code = code) (hr : meth.sig.returnType = ret) (hlocks : meth.locks = false) {pc : Nat} {H : Heap} {ls : Array Slot} (hdg : decode code pc = .ok (.ireturn, 1)) : W p l e room_1 s m #[Value.ref b] below meth c H [] 673281 7076262 (lw_Z below #[Value.ref b] s) (F0 m pc ls [.int 1]) := by
  intro T hT X
  obtain ⟨fs, hret, hrun, hended, hW, hframe⟩ := X.leave (v := some (.int 1)) (hlocks := hlocks) (fun h => by rw [hr] at h; cases h)
  have hmeth' : T.vm.method? m = some meth := X.method'
  refine ⟨T.setFrames fs, ?_, .returned (some (.int 1)), hrun, hended, rfl, ⟨_, rfl⟩, hW, hframe⟩
  jvm_step X.here [X.here.top, hx, hb, hdg, hmeth', hr, ret, narrow_b1]
  (try refine ⟨rfl, ?_⟩); (try refine ⟨rfl, ?_⟩)
  first | (intro acts; rw [hret _ acts rfl rfl rfl]) | rw [hret _ _ rfl rfl rfl]
  exact Steps.refl _
/-- what holds at the law's entry: the machine, the code, the tables' words (any of lw_tbl by 'hts w (by decide +kernel)'), the script of L ints xs at the cell b, what the Statement gives of the start (any of its parts by flat_of_before) -/
def lw_At (p : Program) (s : State) (m : MethodId) (meth : Method) (c : Code) (b L : Nat) (xs : Nat → Int32) : Prop :=
  p.tables.exec = Jvm.exec ∧ c.code = code ∧ meth.sig.returnType = ret ∧ c.maxLocals = 7 ∧ s.vm.findClass R_law = some m.cls ∧ (∀ w ∈ lw_tbl, w.before #[Value.ref b] s = true) ∧ va_X b L xs s s.heap ∧ b < s.heap.size ∧ meth.locks = false ∧ (Jvm.Cond.and given_1 narrow_1).before #[Value.ref b] s = true
theorem tb1 {w : Cond} (i : Nat) (h : tables_1_1[i]? = some w) : w ∈ lw_tbl := List.mem_append_right _ (List.mem_append_left _ (List.mem_of_getElem? h))
theorem tb2 {w : Cond} (i : Nat) (h : tables_1_2[i]? = some w) : w ∈ lw_tbl := List.mem_append_right _ (List.mem_append_right _ (List.mem_append_left _ (List.mem_of_getElem? h)))
theorem tb3 {w : Cond} (i : Nat) (h : tables_1_3[i]? = some w) : w ∈ lw_tbl := List.mem_append_right _ (List.mem_append_right _ (List.mem_append_right _ (List.mem_append_left _ (List.mem_of_getElem? h))))
theorem tb4 {w : Cond} (i : Nat) (h : tables_1_4[i]? = some w) : w ∈ lw_tbl := List.mem_append_right _ (List.mem_append_right _ (List.mem_append_right _ (List.mem_append_right _ (List.mem_of_getElem? h))))
set_option maxRecDepth 100000 in
theorem sz_nc : ∀ q ∈ th_nc, Cond.not (.castable q.1 q.2) ∈ flatC (Jvm.Cond.and given_1 narrow_1) := by decide +kernel
set_option maxRecDepth 100000 in
theorem sz_st : ∀ q ∈ th_st, Cond.exactly (.string ROB q.1) "java/lang/String" ∈ flatC (Jvm.Cond.and given_1 narrow_1) := by decide +kernel
set_option maxRecDepth 100000 in
theorem sz_s1 : Cond.isRef (.static Bundle.tN "UNASSIGNED_STACK" Bundle.steD) ∈ flatC (Jvm.Cond.and given_1 narrow_1) := by decide +kernel
set_option maxRecDepth 100000 in
theorem sz_s2 : Cond.isRef (.static Bundle.tN "SUPPRESSED_SENTINEL" Bundle.listD) ∈ flatC (Jvm.Cond.and given_1 narrow_1) := by decide +kernel
theorem sz_sr : ∀ q ∈ th_st, Cond.stringRef ROB q.1 q.2 ∈ lw_tbl := List.forall_mem_cons.mpr ⟨(tb2 48 rfl), List.forall_mem_cons.mpr ⟨(tb2 75 rfl), List.forall_mem_cons.mpr ⟨(tb2 85 rfl), List.forall_mem_cons.mpr ⟨(tb2 119 rfl), List.forall_mem_cons.mpr ⟨(tb2 123 rfl), List.forall_mem_cons.mpr ⟨(tb2 128 rfl), List.forall_mem_cons.mpr ⟨(tb2 170 rfl), List.forall_mem_cons.mpr ⟨(tb2 181 rfl), List.forall_mem_cons.mpr ⟨(tb2 182 rfl), List.forall_mem_cons.mpr ⟨(tb2 206 rfl), List.forall_mem_cons.mpr ⟨(tb2 211 rfl), List.forall_mem_cons.mpr ⟨(tb2 216 rfl), List.forall_mem_cons.mpr ⟨(tb2 231 rfl), List.forall_mem_cons.mpr ⟨(tb3 40 rfl), List.forall_mem_cons.mpr ⟨(tb3 58 rfl), List.forall_mem_cons.mpr ⟨(tb3 87 rfl), List.forall_mem_cons.mpr ⟨(tb3 94 rfl), List.forall_mem_cons.mpr ⟨(tb3 107 rfl), List.forall_mem_cons.mpr ⟨(tb3 115 rfl), List.forall_mem_cons.mpr ⟨(tb3 127 rfl), fun _ h => absurd h List.not_mem_nil⟩⟩⟩⟩⟩⟩⟩⟩⟩⟩⟩⟩⟩⟩⟩⟩⟩⟩⟩⟩
theorem sz_dc : ∀ x ∈ th_dc, Cond.declares x ∈ lw_tbl := List.forall_mem_cons.mpr ⟨(tb2 10 rfl), List.forall_mem_cons.mpr ⟨(tb2 12 rfl), List.forall_mem_cons.mpr ⟨(tb2 14 rfl), fun _ h => absurd h List.not_mem_nil⟩⟩⟩
theorem sz_ex : ∀ X ∈ th_ex, Cond.castable X X ∈ lw_tbl := List.forall_mem_cons.mpr ⟨(tb2 8 rfl), List.forall_mem_cons.mpr ⟨(tb2 78 rfl), List.forall_mem_cons.mpr ⟨(tb2 163 rfl), List.forall_mem_cons.mpr ⟨(tb3 51 rfl), fun _ h => absurd h List.not_mem_nil⟩⟩⟩⟩
/-- what the throws ask, at the start -/
theorem sz_Z {args : Array Value} {s : State} (hts : ∀ w ∈ lw_tbl, w.before args s = true) (hgv : (Jvm.Cond.and given_1 narrow_1).before args s = true) : th_Z s := by
  have hf := flat_of_before _ hgv
  refine ⟨fun x hx => va_Nw.of rfl (hts _ (sz_dc x hx)), fun X hX => va_Nw.of rfl (hts _ (sz_ex X hX)), fun q hq => va_Nc.of (hf _ (sz_nc q hq)), fun q hq => ?_, ⟨hts _ (tb2 33 rfl), hf _ sz_s1⟩, ⟨hts _ (tb2 35 rfl), hf _ sz_s2⟩⟩
  obtain ⟨a, c, cell, k, h1, -⟩ := Cond.exactly_spec (hf _ (sz_st q hq))
  exact ⟨a, vk_R.of (hts _ (sz_sr q hq)) h1⟩
theorem sz_C {args : Array Value} {s : State} (hts : ∀ w ∈ lw_tbl, w.before args s = true) : ck_Z s := ⟨va_Nw.of rfl (hts _ (tb1 27 rfl)), va_Nw.of rfl (hts _ (tb1 51 rfl)), va_Nw.of rfl (hts _ (tb1 126 rfl)), va_AO.of (hts _ (tb1 49 rfl))⟩
theorem sz_arr {args : Array Value} {s : State} {ty : FieldType} (h : (Cond.arrayClass ty).before args s = true) : ∃ cA : ClassId, ArrOfT s cA ty ∧ s.vm.findClass ("[" ++ ty.toString) = some cA := by
  obtain ⟨c, k, comp, h1, h2, h3⟩ := Cond.arrayClass_spec h
  exact ⟨c, fun n z => ⟨fun k h => (by cases h), k, h2, comp, h3⟩, h1⟩
theorem sz_arq {s : State} (h : va_AO "OrderBounds$Line" s) : ∃ cA : ClassId, ArrOfT s cA (.object "OrderBounds$Line") ∧ va_RA s cA (.object "OrderBounds$Line") := by
  obtain ⟨comp, c, k, h1, -, h2, h3, h4⟩ := Cond.arrayOver_spec (va_AO.use (A := #[]) h)
  exact ⟨c, fun n z => ⟨fun k h => (by cases h), k, h2, comp, h3⟩, k, comp, h2, h3, h1, h4⟩
theorem sz_K {args : Array Value} {s : State} (hT : ∀ w ∈ tt, w.before args s = true) (hC : ck_Z s) : ∃ (D : va_G) (cI cL cZ cJ : ClassId), va_K D vwCl (lt4 cI cL cZ cJ) s := by
  obtain ⟨cI, a1, a2⟩ := sz_arr (hT (.arrayClass .int) (tt1 41 rfl rfl))
  obtain ⟨cZ, z1, z2⟩ := sz_arr (hT (.arrayClass .boolean) (tt3 218 rfl rfl))
  obtain ⟨cJ, j1, j2⟩ := sz_arr (hT (.arrayClass .long) (tt4 98 rfl rfl))
  obtain ⟨cL, l1, l2⟩ := sz_arq hC.2.2.2
  obtain ⟨c0, i0, k0⟩ := u_known (C := RCo) (T := TCo) (N := 3) (n := 3) hT wuCo (hT (.instantiable RCo 3) (tt1 26 rfl rfl))
  obtain ⟨c1, i1, k1⟩ := u_known (C := RLi) (T := TLi) (N := 6) (n := 6) hT wuLi (hT (.instantiable RLi 6) (tt1 50 rfl rfl))
  obtain ⟨c2, i2, k2⟩ := u_known (C := RLs) (T := TLs) (N := 4) (n := 4) hT wuLs (hT (.instantiable RLs 4) (tt1 43 rfl rfl))
  obtain ⟨c3, i3, k3⟩ := u_known (C := RSe) (T := TSe) (N := 10) (n := 10) hT wuSe (hT (.instantiable RSe 10) (tt1 88 rfl rfl))
  obtain ⟨c4, i4, k4⟩ := u_known (C := RFo) (T := TFo) (N := 2) (n := 2) hT wuFo (hT (.instantiable RFo 2) (tt1 125 rfl rfl))
  obtain ⟨c5, i5, k5⟩ := u_known (C := ROB) (T := TOB) (N := 4) (n := 4) hT wuOB (hT (.instantiable ROB 4) (tt1 18 rfl rfl))
  obtain ⟨c6, i6, k6⟩ := u_known (C := RMo) (T := TMo) (N := 24) (n := 24) hT wuMo (hT (.instantiable RMo 24) (tt3 140 rfl rfl))
  refine ⟨(fun k => ([c0, c1, c2, c3, c4, c5, c6] : List ClassId).getD k 0, fun k => match k with | 0 => i0 | 1 => i1 | 2 => i2 | 3 => i3 | 4 => i4 | 5 => i5 | _ => i6), cI, cL, cZ, cJ, ?_, ?_⟩
  · intro k q hq
    match k, hq with
    | 0, hq => cases hq; exact k0
    | 1, hq => cases hq; exact k1
    | 2, hq => cases hq; exact k2
    | 3, hq => cases hq; exact k3
    | 4, hq => cases hq; exact k4
    | 5, hq => cases hq; exact k5
    | 6, hq => cases hq; exact k6
    | k + 7, hq => simp [vwCl] at hq
  · intro k q hq
    match k, hq with
    | 0, hq => cases hq; exact ⟨a1, a2⟩
    | 1, hq => cases hq; exact ⟨l1, l2⟩
    | 2, hq => cases hq; exact ⟨z1, z2⟩
    | 3, hq => cases hq; exact ⟨j1, j2⟩
    | k + 4, hq => simp [lt4] at hq
set_option maxHeartbeats 16000000 in
set_option maxRecDepth 100000 in
/-- from the entry, for every script of at most 2048 ints, the law comes to its end with true -/
theorem whole_start9 {p : Program} {e : Env} {s : State} {m : MethodId} {below : List Frame} {meth : Method} {c : Code} (l : Launch) {Rel : oS → oS → Prop} (h0 : Rel zz zz) (hst : st_all l Rel) {b L : Nat} {xs : Nat → Int32} (hL : L ≤ 2048) (C0 : lw_At p s m meth c b L xs) : W p l e room_1 s m #[Value.ref b] below meth c s.heap [] 0 0 (lw_Z below #[Value.ref b] s) (entryFrame m ([Value.ref b] : List Value).toArray 7) := by
  obtain ⟨hx, hb, hr, hml, hown, hts, hX, hbl, hlocks, hgv⟩ := id C0
  have hZ := sz_Z hts hgv
  have hC := sz_C hts
  have hT : ∀ w ∈ tt, w.before #[Value.ref b] s = true := fun w h => hts w (tt_tbl w h)
  have F : CallFix p m c code 7 s #[Value.ref b] (Cond.tt :: tt) RLa := ⟨hx, hb, hml, hown, List.forall_mem_cons.mpr ⟨rfl, hT⟩⟩
  obtain ⟨D, cI, cL, cZ, cJ, hK⟩ := sz_K hT hC
  obtain ⟨A, hA⟩ : ∃ A : Nat → Prop, ∀ q : Nat, s.heap.size ≤ q ↔ A q := ⟨fun q => s.heap.size ≤ q, fun _ => Iff.rfl⟩
  have hA9 : ∀ q : Nat, s.heap.size ≤ q → A q := fun q h => (hA q).mp h
  have hS : va_S A s.heap s.heap [] := va_S.rf
  have hP : va_P D vwCl [] s.heap := fun k q h => by simp at h
  have hD : va_D A [] := ⟨fun i j p q h => by simp at h, fun k q h => by simp at h⟩
  have hl := lv_entry ([.ref b]) (n := 7) (Nat.le_of_ble_eq_true rfl)
  rw [lg_entry_eq]
  generalize (lg_sl ([.ref b]) ++ List.replicate (7 - (lg_sl ([.ref b])).length) Slot.unset).toArray = ls at hl ⊢
  have hl : lv_has ls 7 [(0, .ref b)] := hl
  refine ok_new (ci := 5) (fs := [.null, .null, .null, .null]) F wuOB tyOB tkOB (tt1 17 rfl rfl) (tt1 18 rfl rfl) in9_OB hK hP hD hS hA9 rfl (fun j hj => by match j, hj with | 0, _ => rfl | 1, _ => rfl | 2, _ => rfl | 3, _ => rfl) (Nat.le_of_ble_eq_true rfl) (Nat.le_of_ble_eq_true rfl) d_La_law_0 (fun q1 H hP hD hS => ?_)
  refine lv_dup hx hb d_La_law_3 rfl ?_
  refine ok_I (rm := r_OB) (wr := []) (As := []) F (c_OB_init q1) 0 (tt_C k_OB_init) rfl in9_OB (tt1 19 rfl rfl) i_OB_init rfl (by decide +kernel) ⟨Nat.le_of_ble_eq_true rfl, Nat.le_of_ble_eq_true rfl⟩ (hK.sub [0, 1] rfl) hC hP hD hS hA9 rfl hl.1 rfl (Nat.le_of_ble_eq_true rfl) ⟨Nat.le_of_ble_eq_true rfl, Nat.le_of_ble_eq_true rfl⟩ d_La_law_4 (fun g1 H locs hP hD hS => ?_)
  rw [List.nil_append] at hP hD
  refine lv_astore_n (lv' := [(1, .ref q1), (0, .ref b)]) hx hb d_La_law_7 rfl hl (by decide) rfl (fun ls hl => ?_)
  refine ok_new (ci := 6) (fs := [.int 0, .int 0, .null, .null, .int 0, .null, .null, .null, .int 0, .null, .null, .null, .int 0, .null, .int 0, .null, .null, .int 0, .int 0, .int 0, .int 0, .null, .null, .null]) F wuMo tyMo tkMo (tt3 139 rfl rfl) (tt3 140 rfl rfl) in9_Mo hK hP hD hS hA9 rfl (fun j hj => by match j, hj with | 0, _ => rfl | 1, _ => rfl | 2, _ => rfl | 3, _ => rfl | 4, _ => rfl | 5, _ => rfl | 6, _ => rfl | 7, _ => rfl | 8, _ => rfl | 9, _ => rfl | 10, _ => rfl | 11, _ => rfl | 12, _ => rfl | 13, _ => rfl | 14, _ => rfl | 15, _ => rfl | 16, _ => rfl | 17, _ => rfl | 18, _ => rfl | 19, _ => rfl | 20, _ => rfl | 21, _ => rfl | 22, _ => rfl | 23, _ => rfl | n + 24, h => exact absurd h (by omega)) (Nat.le_of_ble_eq_true rfl) (Nat.le_of_ble_eq_true rfl) d_La_law_8 (fun q2 H hP hD hS => ?_)
  refine lv_dup hx hb d_La_law_11 rfl ?_
  refine ok_I (rm := r_Mo) (wr := ow cI cL (ad0 q1 g1) zz) (As := []) F (c_Mo_init q2) 0 (tt_C k_Mo_init) rfl in9_Mo (tt3 141 rfl rfl) i_Mo_init rfl (by decide +kernel) ⟨Nat.le_of_ble_eq_true rfl, Nat.le_of_ble_eq_true rfl⟩ (hK.sub [0, 2] rfl) hC hP hD hS hA9 rfl hl.1 rfl (Nat.le_of_ble_eq_true rfl) ⟨Nat.le_of_ble_eq_true rfl, Nat.le_of_ble_eq_true rfl⟩ d_La_law_12 (fun g2 H locs hP hD hS => ?_)
  rw [k_Mo_eq] at hP hD
  refine lv_astore_n (lv' := [(2, .ref q2), (1, .ref q1), (0, .ref b)]) hx hb d_La_law_15 rfl hl (by decide) rfl (fun ls hl => ?_)
  refine lv_iconst (v := 1) hx hb d_La_law_16 (by decide) ?_
  refine ok_newa (ty := .long) (a0 := (1, .inr (.inl (fun _ => 0)))) (cA := cJ) 3 F (tt4 98 rfl rfl) rfl hK rfl hP hD hS hA9 (fun _ => rfl) (by decide) (N' := 1) (by decide) (Nat.le_of_ble_eq_true rfl) (Nat.le_of_ble_eq_true rfl) (Nat.le_of_ble_eq_true rfl) d_La_law_17 (fun q3 H hP hD hS => ?_)
  refine lv_astore_n (lv' := [(3, .ref q3), (2, .ref q2), (1, .ref q1), (0, .ref b)]) hx hb d_La_law_19 rfl hl (by decide) rfl (fun ls hl => ?_)
  refine lv_iconst (v := 0) hx hb d_La_law_20 (by decide) ?_
  refine lv_istore (lv' := [(4, .int (nI (4 * 0))), (3, .ref q3), (2, .ref (ad0 q2 (fun k => g2 (k - 1)) 0)), (1, .ref (ad0 q1 g1 0)), (0, .ref b)]) hx hb d_La_law_21 hl (by decide) rfl (fun ls hl => ?_)
  have hP := ok_swapP hP
  have hD := ok_swapD hD
  rw [← List.append_assoc] at hP hD
  have hP := ok_swapP hP
  have hD := ok_swapD hD
  refine lw_loop (ad := ad0 q1 g1) (am := ad0 q2 (fun k => g2 (k - 1))) (o := q3) hst F hK hZ hX hbl hA hL ⟨Nat.le_of_ble_eq_true rfl, Nat.le_of_ble_eq_true rfl, Nat.le_of_ble_eq_true rfl, Nat.le_of_ble_eq_true rfl⟩ ?_ 512 0 rfl zz zz (fun _ => 0) H locs ls _ _ h0 hP hD hS hl (Nat.le_of_ble_eq_true rfl) (Nat.le_of_ble_eq_true rfl)
  intro H locs ls cells slots hS hc hs
  refine lv_iconst (v := 1) hx hb d_La_law_818 (by decide) ?_
  refine va_forget (fun q hq => (hA q.base).mpr (hS.2.2 q hq)) ?_
  refine W.widen (k := 673281) (n := 7076262) (by omega) (by omega) ?_
  exact lw_ret hx hb hr hlocks d_La_law_819
