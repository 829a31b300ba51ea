section
variable {p : Program} {l : Launch} {e : Env} {R : Room} {s : State} {m : MethodId} {args : Array Value} {below : List Frame} {meth : Method} {c : Code} {H : Heap} {locs : List Loc} {cells slots : Nat} {Q : State → Prop}
variable {ls : Array Slot} {D : va_G} {cI cL : ClassId} {A : Nat → Prop} {H0 : Heap} {cw : Cond}
abbrev lq (f : Nat → Option Nat) : (Nat → Int32) ⊕ (Nat → Int64) ⊕ (Nat → UInt32) ⊕ (Nat → UInt64) ⊕ (Nat → Option Nat) := .inr (.inr (.inr (.inr f)))
abbrev lb (cL : ClassId) (h0 a0 a1 : Nat) (f1 f2 : Nat → Option Nat) : va_W := [(h0, .inr (2, [.ref a0, .ref a1, .int 0, .int 0])), (a0, .inl (cL, 4, lq f1)), (a1, .inl (cL, 4, lq f2))]
theorem lb_len {w x : va_W} {q : Nat × va_E} : (w ++ (q :: x))[w.length]? = some q := by rw [List.getElem?_append_right (Nat.le_refl _), Nat.sub_self]; rfl
set_option maxHeartbeats 4000000 in
set_option maxRecDepth 100000 in
theorem ls_it1 {L : va_W} {h0 a0 a1 : Nat} {f1 f2 : Nat → Option Nat} {j : Nat} (hj : j < 4) (F : CallFix p m c b_Ls_init 2 s args (cw :: tt) RLs) (hK : va_K D vwCl (ot cI cL) s) (hZ : ck_Z s) (hA : ∀ q, H0.size ≤ q → A q) (hP : va_P D vwCl (lb cL h0 a0 a1 f1 f2 ++ L) H) (hD : va_D A (lb cL h0 a0 a1 f1 f2 ++ L)) (hS : va_S A H0 H locs) (hl : lv_has ls 2 [(1, .int (nI j)), (0, .ref h0)]) (hR : cells + 4 ≤ R.cells ∧ slots + 23 ≤ R.slots ∧ 2 ≤ R.frames ∧ 60 ≤ R.locals)
    (kk : ∀ (q : Nat) (g : Nat → Nat) (H1 : Heap) (locs1 : List Loc) (ls : Array Slot), va_P D vwCl (lb cL h0 a0 a1 (va_up f1 j (some q)) f2 ++ (L ++ k_Li cI q g)) H1 → va_D A (lb cL h0 a0 a1 (va_up f1 j (some q)) f2 ++ (L ++ k_Li cI q g)) → va_S A H0 H1 locs1 → lv_has ls 2 [(1, .int (nI (j + 1))), (0, .ref h0)] → W p l e R s m args below meth c H1 locs1 (cells + 4) (slots + 23) Q (F0 m 32 ls [])) : W p l e R s m args below meth c H locs cells slots Q (F0 m 37 ls []) := by
  obtain ⟨hR1, hR2, hR3, hR4⟩ := hR
  have hx := F.1
  have hb := F.2.1
  refine lv_aload_n hx hb d_Ls_init_37 rfl (lv_at hl 1 rfl) ?_
  refine va_get hx hb F.2.2.2.2 (fun w h => List.mem_cons_of_mem _ (wuLs w h)) F.2.2.2.1 hK hP 0 rfl rfl 0 (Nat.le_of_ble_eq_true rfl) (F.2.2.2.2 _ (List.mem_cons_of_mem _ (tt1 74 rfl rfl))) (fun _ h => h) rfl d_Ls_init_38 ?_
  refine lv_iload_n hx hb d_Ls_init_41 rfl (lv_at hl 0 rfl) ?_
  refine ok_new (ci := 1) (fs := [.null, .int 0, .int 0, .int 0, .null, .null]) F wuLi tyLi tkLi (tt1 48 rfl rfl) (tt1 50 rfl rfl) in9_Li hK hP hD hS hA rfl (fun j hj => by match j, hj with | 0, _ => rfl | 1, _ => rfl | 2, _ => rfl | 3, _ => rfl | 4, _ => rfl | 5, _ => rfl) (by omega) (by omega) d_Ls_init_42 (fun q H hP hD hS => ?_)
  refine lv_dup hx hb d_Ls_init_45 rfl ?_
  refine ok_IN (host := ROB) (rm := r_Li) (wr := lb cL h0 a0 a1 f1 f2 ++ L) (As := []) F (c_Li_init q) 0 (tt_C k_Li_init) rfl in9_Li hZ.2.1 i_Li_init rfl (by decide +kernel) ⟨by show 1 + 1 ≤ _; omega, by show 8 + (1 + 11) + 20 ≤ _; omega⟩ hK hZ hP hD hS hA rfl hl.1 rfl (by simp [Value.category]) ⟨by show _ + 3 ≤ _; omega, by show _ + 17 ≤ _; omega⟩ d_Ls_init_46 (fun g H locs hP hD hS => ?_)
  refine va_astq hx hb hK hP hD hS 1 1 (lb cL h0 a0 a1 f1 f2 ++ L).length 1 rfl rfl lb_len rfl (vp_in_nI hj (by decide)) d_Ls_init_49 (fun H locs hP hD hS => ?_)
  rw [nI_clamp (by omega)] at hP hD
  have hP : va_P D vwCl ((lb cL h0 a0 a1 (va_up f1 j (some q)) f2 ++ L) ++ k_Li cI q g) H := hP
  have hD : va_D A ((lb cL h0 a0 a1 (va_up f1 j (some q)) f2 ++ L) ++ k_Li cI q g) := hD
  rw [List.append_assoc] at hP hD
  refine lv_iinc (v := nI (j + 1)) (lv' := [(1, .int (nI (j + 1))), (0, .ref h0)]) hx hb d_Ls_init_50 hl (k := 0) rfl (nI_inc _) (by decide) rfl (fun ls hl => ?_)
  refine lv_goto (tgt := 32) hx hb d_Ls_init_53 (by decide) ?_
  exact kk q g H locs ls hP hD hS hl
set_option maxHeartbeats 4000000 in
set_option maxRecDepth 100000 in
theorem ls_it2 {L : va_W} {h0 a0 a1 : Nat} {f1 f2 : Nat → Option Nat} {j : Nat} (hj : j < 4) (F : CallFix p m c b_Ls_init 2 s args (cw :: tt) RLs) (hK : va_K D vwCl (ot cI cL) s) (hZ : ck_Z s) (hA : ∀ q, H0.size ≤ q → A q) (hP : va_P D vwCl (lb cL h0 a0 a1 f1 f2 ++ L) H) (hD : va_D A (lb cL h0 a0 a1 f1 f2 ++ L)) (hS : va_S A H0 H locs) (hl : lv_has ls 2 [(1, .int (nI j)), (0, .ref h0)]) (hR : cells + 4 ≤ R.cells ∧ slots + 23 ≤ R.slots ∧ 2 ≤ R.frames ∧ 60 ≤ R.locals)
    (kk : ∀ (q : Nat) (g : Nat → Nat) (H1 : Heap) (locs1 : List Loc) (ls : Array Slot), va_P D vwCl (lb cL h0 a0 a1 f1 (va_up f2 j (some q)) ++ (L ++ k_Li cI q g)) H1 → va_D A (lb cL h0 a0 a1 f1 (va_up f2 j (some q)) ++ (L ++ k_Li cI q g)) → va_S A H0 H1 locs1 → lv_has ls 2 [(1, .int (nI (j + 1))), (0, .ref h0)] → W p l e R s m args below meth c H1 locs1 (cells + 4) (slots + 23) Q (F0 m 58 ls [])) : W p l e R s m args below meth c H locs cells slots Q (F0 m 63 ls []) := by
  obtain ⟨hR1, hR2, hR3, hR4⟩ := hR
  have hx := F.1
  have hb := F.2.1
  refine lv_aload_n hx hb d_Ls_init_63 rfl (lv_at hl 1 rfl) ?_
  refine va_get hx hb F.2.2.2.2 (fun w h => List.mem_cons_of_mem _ (wuLs w h)) F.2.2.2.1 hK hP 0 rfl rfl 1 (Nat.le_of_ble_eq_true rfl) (F.2.2.2.2 _ (List.mem_cons_of_mem _ (tt1 75 rfl rfl))) (fun _ h => h) rfl d_Ls_init_64 ?_
  refine lv_iload_n hx hb d_Ls_init_67 rfl (lv_at hl 0 rfl) ?_
  refine ok_new (ci := 1) (fs := [.null, .int 0, .int 0, .int 0, .null, .null]) F wuLi tyLi tkLi (tt1 48 rfl rfl) (tt1 50 rfl rfl) in9_Li hK hP hD hS hA rfl (fun j hj => by match j, hj with | 0, _ => rfl | 1, _ => rfl | 2, _ => rfl | 3, _ => rfl | 4, _ => rfl | 5, _ => rfl) (by omega) (by omega) d_Ls_init_68 (fun q H hP hD hS => ?_)
  refine lv_dup hx hb d_Ls_init_71 rfl ?_
  refine ok_IN (host := ROB) (rm := r_Li) (wr := lb cL h0 a0 a1 f1 f2 ++ L) (As := []) F (c_Li_init q) 0 (tt_C k_Li_init) rfl in9_Li hZ.2.1 i_Li_init rfl (by decide +kernel) ⟨by show 1 + 1 ≤ _; omega, by show 8 + (1 + 11) + 20 ≤ _; omega⟩ hK hZ hP hD hS hA rfl hl.1 rfl (by simp [Value.category]) ⟨by show _ + 3 ≤ _; omega, by show _ + 17 ≤ _; omega⟩ d_Ls_init_72 (fun g H locs hP hD hS => ?_)
  refine va_astq hx hb hK hP hD hS 2 1 (lb cL h0 a0 a1 f1 f2 ++ L).length 1 rfl rfl lb_len rfl (vp_in_nI hj (by decide)) d_Ls_init_75 (fun H locs hP hD hS => ?_)
  rw [nI_clamp (by omega)] at hP hD
  have hP : va_P D vwCl ((lb cL h0 a0 a1 f1 (va_up f2 j (some q)) ++ L) ++ k_Li cI q g) H := hP
  have hD : va_D A ((lb cL h0 a0 a1 f1 (va_up f2 j (some q)) ++ L) ++ k_Li cI q g) := hD
  rw [List.append_assoc] at hP hD
  refine lv_iinc (v := nI (j + 1)) (lv' := [(1, .int (nI (j + 1))), (0, .ref h0)]) hx hb d_Ls_init_76 hl (k := 0) rfl (nI_inc _) (by decide) rfl (fun ls hl => ?_)
  refine lv_goto (tgt := 58) hx hb d_Ls_init_79 (by decide) ?_
  exact kk q g H locs ls hP hD hS hl
def k_Ls (cI cL : ClassId) (h0 : Nat) (g : Nat → Nat) : va_W := [(h0, .inr (2, [.ref (g 0), .ref (g 1), .int 0, .int 0])), (g 0, .inl (cL, 4, lq (fun q => some (g (4 * q + 2))))), (g 1, .inl (cL, 4, lq (fun q => some (g (4 * (q + 4) + 2))))), ((g 2), .inr (1, [.ref (g 3), .int 0, .int 0, .int 0, .ref (g 4), .ref (g 5)])), ((g 3), .inl (cI, 5, .inl (fun _ => 0))), ((g 4), .inl (cI, 6, .inl (fun _ => 0))), ((g 5), .inl (cI, 6, .inl (fun _ => 0))), ((g 6), .inr (1, [.ref (g 7), .int 0, .int 0, .int 0, .ref (g 8), .ref (g 9)])), ((g 7), .inl (cI, 5, .inl (fun _ => 0))), ((g 8), .inl (cI, 6, .inl (fun _ => 0))), ((g 9), .inl (cI, 6, .inl (fun _ => 0))), ((g 10), .inr (1, [.ref (g 11), .int 0, .int 0, .int 0, .ref (g 12), .ref (g 13)])), ((g 11), .inl (cI, 5, .inl (fun _ => 0))), ((g 12), .inl (cI, 6, .inl (fun _ => 0))), ((g 13), .inl (cI, 6, .inl (fun _ => 0))), ((g 14), .inr (1, [.ref (g 15), .int 0, .int 0, .int 0, .ref (g 16), .ref (g 17)])), ((g 15), .inl (cI, 5, .inl (fun _ => 0))), ((g 16), .inl (cI, 6, .inl (fun _ => 0))), ((g 17), .inl (cI, 6, .inl (fun _ => 0))), ((g 18), .inr (1, [.ref (g 19), .int 0, .int 0, .int 0, .ref (g 20), .ref (g 21)])), ((g 19), .inl (cI, 5, .inl (fun _ => 0))), ((g 20), .inl (cI, 6, .inl (fun _ => 0))), ((g 21), .inl (cI, 6, .inl (fun _ => 0))), ((g 22), .inr (1, [.ref (g 23), .int 0, .int 0, .int 0, .ref (g 24), .ref (g 25)])), ((g 23), .inl (cI, 5, .inl (fun _ => 0))), ((g 24), .inl (cI, 6, .inl (fun _ => 0))), ((g 25), .inl (cI, 6, .inl (fun _ => 0))), ((g 26), .inr (1, [.ref (g 27), .int 0, .int 0, .int 0, .ref (g 28), .ref (g 29)])), ((g 27), .inl (cI, 5, .inl (fun _ => 0))), ((g 28), .inl (cI, 6, .inl (fun _ => 0))), ((g 29), .inl (cI, 6, .inl (fun _ => 0))), ((g 30), .inr (1, [.ref (g 31), .int 0, .int 0, .int 0, .ref (g 32), .ref (g 33)])), ((g 31), .inl (cI, 5, .inl (fun _ => 0))), ((g 32), .inl (cI, 6, .inl (fun _ => 0))), ((g 33), .inl (cI, 6, .inl (fun _ => 0)))]
abbrev r_Ls : Room := { frames := 2, cells := 34, slots := 192, locals := 60 }
/-- arrays of references that agree below their length are one -/
theorem lq_ext {cl : List vw_C} {w : va_W} {k a n : Nat} {cA : ClassId} {f f' : Nat → Option Nat} (hP : va_P D cl w H) (hk : w[k]? = some (a, .inl (cA, n, lq f))) (h : ∀ j, j < n → f j = f' j) : va_P D cl (w.set k (a, .inl (cA, n, lq f'))) H := by
  intro i q hq
  by_cases hi : i = k
  · subst hi
    rw [List.getElem?_set_self (List.getElem?_eq_some_iff.mp hk).1] at hq
    cases hq
    have := hP i _ hk
    show H[a]? = some (vp_cell cA (n, lq f'))
    rw [show H[a]? = some (vp_cell cA (n, lq f)) from this]
    congr 1
    show arrV cA n (fun j => va_rf (f j)) = arrV cA n (fun j => va_rf (f' j))
    unfold arrV
    congr 1
    apply Array.ext
    · simp
    · intro j h1 h2
      simp only [Array.getElem_ofFn]
      rw [h j (by simpa using h1)]
  · rw [List.getElem?_set_ne (fun z => hi z.symm)] at hq
    exact hP i q hq
theorem lq_extD {w : va_W} {k a n : Nat} {cA : ClassId} {f f' : Nat → Option Nat} (hD : va_D A w) (hk : w[k]? = some (a, .inl (cA, n, lq f))) : va_D A (w.set k (a, .inl (cA, n, lq f'))) := hD.set hk
set_option maxHeartbeats 16000000 in
set_option maxRecDepth 100000 in
theorem c_Ls_init (h0 : Nat) : ok_MI l y_Ls_init (Cond.code y_Ls_init b_Ls_init 2 none :: tt) r_Ls D vwCl (ot cI cL) [(h0, .inr (2, [.null, .null, .int 0, .int 0]))] (k_Ls cI cL h0) [.ref h0] := by
  refine ok_startI (cc := b_Ls_init) (own := RLs) (maxL := 2) (ret := none) (by decide +kernel) rfl rfl (Nat.le_of_ble_eq_true rfl) ?_
  intro p e s m below meth c A F hr hlk hin hZ hA hP hK hD hS ls hl
  have hl : lv_has ls 2 [(0, .ref h0)] := hl
  have hx := F.1
  have hb := F.2.1
  refine lv_aload_n hx hb d_Ls_init_0 rfl (lv_at hl 0 rfl) ?_
  refine ok_obj F (tt1 47 rfl rfl) hl.1 d_Ls_init_1 (Nat.le_of_ble_eq_true rfl) (Nat.le_of_ble_eq_true rfl) ?_
  refine lv_aload_n hx hb d_Ls_init_4 rfl (lv_at hl 0 rfl) ?_
  refine lv_iconst (v := 4) hx hb d_Ls_init_5 (by decide) ?_
  refine ok_newq (C := "OrderBounds$Line") (cA := cL) 1 F (tt1 48 rfl rfl) hZ.2.2.2 hK rfl hP hD hS hA (by decide) (N' := 4) (by decide) (Nat.le_of_ble_eq_true rfl) (Nat.le_of_ble_eq_true rfl) (Nat.le_of_ble_eq_true rfl) d_Ls_init_6 (fun a0 H hP hD hS => ?_)
  have hP : va_P D vwCl [(h0, .inr (2, [.null, .null, .int 0, .int 0])), (a0, .inl (cL, 4, lq (fun _ => none)))] H := hP
  have hD : va_D A [(h0, .inr (2, [.null, .null, .int 0, .int 0])), (a0, .inl (cL, 4, lq (fun _ => none)))] := hD
  refine ok_putF F wuLs tyLs tkLs nmLs hK hP hD hS 0 rfl rfl 0 (Nat.le_of_ble_eq_true rfl) (tt1 74 rfl rfl) rfl hin rfl rfl rfl (Nat.le_of_ble_eq_true rfl) d_Ls_init_9 (fun H locs hP hD hS => ?_)
  have hP : va_P D vwCl [(h0, .inr (2, [.ref a0, .null, .int 0, .int 0])), (a0, .inl (cL, 4, lq (fun _ => none)))] H := hP
  have hD : va_D A [(h0, .inr (2, [.ref a0, .null, .int 0, .int 0])), (a0, .inl (cL, 4, lq (fun _ => none)))] := hD
  refine lv_aload_n hx hb d_Ls_init_12 rfl (lv_at hl 0 rfl) ?_
  refine lv_iconst (v := 4) hx hb d_Ls_init_13 (by decide) ?_
  refine ok_newq (C := "OrderBounds$Line") (cA := cL) 1 F (tt1 48 rfl rfl) hZ.2.2.2 hK rfl hP hD hS hA (by decide) (N' := 4) (by decide) (Nat.le_of_ble_eq_true rfl) (Nat.le_of_ble_eq_true rfl) (Nat.le_of_ble_eq_true rfl) d_Ls_init_14 (fun a1 H hP hD hS => ?_)
  have hP : va_P D vwCl [(h0, .inr (2, [.ref a0, .null, .int 0, .int 0])), (a0, .inl (cL, 4, lq (fun _ => none))), (a1, .inl (cL, 4, lq (fun _ => none)))] H := hP
  have hD : va_D A [(h0, .inr (2, [.ref a0, .null, .int 0, .int 0])), (a0, .inl (cL, 4, lq (fun _ => none))), (a1, .inl (cL, 4, lq (fun _ => none)))] := hD
  refine ok_putF F wuLs tyLs tkLs nmLs hK hP hD hS 0 rfl rfl 1 (Nat.le_of_ble_eq_true rfl) (tt1 75 rfl rfl) rfl hin rfl rfl rfl (Nat.le_of_ble_eq_true rfl) d_Ls_init_17 (fun H locs hP hD hS => ?_)
  have hP : va_P D vwCl [(h0, .inr (2, [.ref a0, .ref a1, .int 0, .int 0])), (a0, .inl (cL, 4, lq (fun _ => none))), (a1, .inl (cL, 4, lq (fun _ => none)))] H := hP
  have hD : va_D A [(h0, .inr (2, [.ref a0, .ref a1, .int 0, .int 0])), (a0, .inl (cL, 4, lq (fun _ => none))), (a1, .inl (cL, 4, lq (fun _ => none)))] := hD
  refine lv_aload_n hx hb d_Ls_init_20 rfl (lv_at hl 0 rfl) ?_
  refine lv_iconst (v := 0) hx hb d_Ls_init_21 (by decide) ?_
  refine ok_putC F wuLs tyLs tkLs nmLs hK hP hD hS 0 rfl rfl 2 (Nat.le_of_ble_eq_true rfl) (tt1 76 rfl rfl) rfl rfl rfl (Nat.le_of_ble_eq_true rfl) d_Ls_init_22 (fun H locs hP hD hS => ?_)
  have hP : va_P D vwCl [(h0, .inr (2, [.ref a0, .ref a1, .int 0, .int 0])), (a0, .inl (cL, 4, lq (fun _ => none))), (a1, .inl (cL, 4, lq (fun _ => none)))] H := hP
  have hD : va_D A [(h0, .inr (2, [.ref a0, .ref a1, .int 0, .int 0])), (a0, .inl (cL, 4, lq (fun _ => none))), (a1, .inl (cL, 4, lq (fun _ => none)))] := hD
  refine lv_aload_n hx hb d_Ls_init_25 rfl (lv_at hl 0 rfl) ?_
  refine lv_iconst (v := 0) hx hb d_Ls_init_26 (by decide) ?_
  refine ok_putC F wuLs tyLs tkLs nmLs hK hP hD hS 0 rfl rfl 3 (Nat.le_of_ble_eq_true rfl) (tt1 77 rfl rfl) rfl rfl rfl (Nat.le_of_ble_eq_true rfl) d_Ls_init_27 (fun H locs hP hD hS => ?_)
  have hP : va_P D vwCl [(h0, .inr (2, [.ref a0, .ref a1, .int 0, .int 0])), (a0, .inl (cL, 4, lq (fun _ => none))), (a1, .inl (cL, 4, lq (fun _ => none)))] H := hP
  have hD : va_D A [(h0, .inr (2, [.ref a0, .ref a1, .int 0, .int 0])), (a0, .inl (cL, 4, lq (fun _ => none))), (a1, .inl (cL, 4, lq (fun _ => none)))] := hD
  have hP : va_P D vwCl (lb cL h0 a0 a1 (fun _ => none) (fun _ => none) ++ []) H := hP
  have hD : va_D A (lb cL h0 a0 a1 (fun _ => none) (fun _ => none) ++ []) := hD
  refine lv_iconst (v := 0) hx hb d_Ls_init_30 (by decide) ?_
  refine lv_istore_n (lv' := [(1, .int (nI 0)), (0, .ref h0)]) hx hb d_Ls_init_31 rfl hl (by decide) rfl (fun ls hl => ?_)
  refine lv_iload_n hx hb d_Ls_init_32 rfl (lv_at hl 0 rfl) ?_
  refine lv_iconst (v := 4) hx hb d_Ls_init_33 (by decide) ?_
  refine lv_icmp_ge (tgt := 56) hx hb d_Ls_init_34 (by decide) (fun c9 => absurd c9 (by decide)) (fun _ => ?_)
  refine ls_it1 (j := 0) (by decide) F hK hZ hA hP hD hS hl ⟨Nat.le_of_ble_eq_true rfl, Nat.le_of_ble_eq_true rfl, Nat.le_of_ble_eq_true rfl, Nat.le_of_ble_eq_true rfl⟩ (fun q0 g0 H locs ls hP hD hS hl => ?_)
  refine lv_iload_n hx hb d_Ls_init_32 rfl (lv_at hl 0 rfl) ?_
  refine lv_iconst (v := 4) hx hb d_Ls_init_33 (by decide) ?_
  refine lv_icmp_ge (tgt := 56) hx hb d_Ls_init_34 (by decide) (fun c9 => absurd c9 (by decide)) (fun _ => ?_)
  refine ls_it1 (j := 1) (by decide) F hK hZ hA hP hD hS hl ⟨Nat.le_of_ble_eq_true rfl, Nat.le_of_ble_eq_true rfl, Nat.le_of_ble_eq_true rfl, Nat.le_of_ble_eq_true rfl⟩ (fun q1 g1 H locs ls hP hD hS hl => ?_)
  refine lv_iload_n hx hb d_Ls_init_32 rfl (lv_at hl 0 rfl) ?_
  refine lv_iconst (v := 4) hx hb d_Ls_init_33 (by decide) ?_
  refine lv_icmp_ge (tgt := 56) hx hb d_Ls_init_34 (by decide) (fun c9 => absurd c9 (by decide)) (fun _ => ?_)
  refine ls_it1 (j := 2) (by decide) F hK hZ hA hP hD hS hl ⟨Nat.le_of_ble_eq_true rfl, Nat.le_of_ble_eq_true rfl, Nat.le_of_ble_eq_true rfl, Nat.le_of_ble_eq_true rfl⟩ (fun q2 g2 H locs ls hP hD hS hl => ?_)
  refine lv_iload_n hx hb d_Ls_init_32 rfl (lv_at hl 0 rfl) ?_
  refine lv_iconst (v := 4) hx hb d_Ls_init_33 (by decide) ?_
  refine lv_icmp_ge (tgt := 56) hx hb d_Ls_init_34 (by decide) (fun c9 => absurd c9 (by decide)) (fun _ => ?_)
  refine ls_it1 (j := 3) (by decide) F hK hZ hA hP hD hS hl ⟨Nat.le_of_ble_eq_true rfl, Nat.le_of_ble_eq_true rfl, Nat.le_of_ble_eq_true rfl, Nat.le_of_ble_eq_true rfl⟩ (fun q3 g3 H locs ls hP hD hS hl => ?_)
  refine lv_iload_n hx hb d_Ls_init_32 rfl (lv_at hl 0 rfl) ?_
  refine lv_iconst (v := 4) hx hb d_Ls_init_33 (by decide) ?_
  refine lv_icmp_ge (tgt := 56) hx hb d_Ls_init_34 (by decide) (fun _ => ?_) (fun c9 => absurd (by decide) c9)
  refine lv_iconst (v := 0) hx hb d_Ls_init_56 (by decide) ?_
  refine lv_istore_n (lv' := [(1, .int (nI 0)), (0, .ref h0)]) hx hb d_Ls_init_57 rfl hl (by decide) rfl (fun ls hl => ?_)
  refine lv_iload_n hx hb d_Ls_init_58 rfl (lv_at hl 0 rfl) ?_
  refine lv_iconst (v := 4) hx hb d_Ls_init_59 (by decide) ?_
  refine lv_icmp_ge (tgt := 82) hx hb d_Ls_init_60 (by decide) (fun c9 => absurd c9 (by decide)) (fun _ => ?_)
  refine ls_it2 (j := 0) (by decide) F hK hZ hA hP hD hS hl ⟨Nat.le_of_ble_eq_true rfl, Nat.le_of_ble_eq_true rfl, Nat.le_of_ble_eq_true rfl, Nat.le_of_ble_eq_true rfl⟩ (fun q4 g4 H locs ls hP hD hS hl => ?_)
  refine lv_iload_n hx hb d_Ls_init_58 rfl (lv_at hl 0 rfl) ?_
  refine lv_iconst (v := 4) hx hb d_Ls_init_59 (by decide) ?_
  refine lv_icmp_ge (tgt := 82) hx hb d_Ls_init_60 (by decide) (fun c9 => absurd c9 (by decide)) (fun _ => ?_)
  refine ls_it2 (j := 1) (by decide) F hK hZ hA hP hD hS hl ⟨Nat.le_of_ble_eq_true rfl, Nat.le_of_ble_eq_true rfl, Nat.le_of_ble_eq_true rfl, Nat.le_of_ble_eq_true rfl⟩ (fun q5 g5 H locs ls hP hD hS hl => ?_)
  refine lv_iload_n hx hb d_Ls_init_58 rfl (lv_at hl 0 rfl) ?_
  refine lv_iconst (v := 4) hx hb d_Ls_init_59 (by decide) ?_
  refine lv_icmp_ge (tgt := 82) hx hb d_Ls_init_60 (by decide) (fun c9 => absurd c9 (by decide)) (fun _ => ?_)
  refine ls_it2 (j := 2) (by decide) F hK hZ hA hP hD hS hl ⟨Nat.le_of_ble_eq_true rfl, Nat.le_of_ble_eq_true rfl, Nat.le_of_ble_eq_true rfl, Nat.le_of_ble_eq_true rfl⟩ (fun q6 g6 H locs ls hP hD hS hl => ?_)
  refine lv_iload_n hx hb d_Ls_init_58 rfl (lv_at hl 0 rfl) ?_
  refine lv_iconst (v := 4) hx hb d_Ls_init_59 (by decide) ?_
  refine lv_icmp_ge (tgt := 82) hx hb d_Ls_init_60 (by decide) (fun c9 => absurd c9 (by decide)) (fun _ => ?_)
  refine ls_it2 (j := 3) (by decide) F hK hZ hA hP hD hS hl ⟨Nat.le_of_ble_eq_true rfl, Nat.le_of_ble_eq_true rfl, Nat.le_of_ble_eq_true rfl, Nat.le_of_ble_eq_true rfl⟩ (fun q7 g7 H locs ls hP hD hS hl => ?_)
  refine lv_iload_n hx hb d_Ls_init_58 rfl (lv_at hl 0 rfl) ?_
  refine lv_iconst (v := 4) hx hb d_Ls_init_59 (by decide) ?_
  refine lv_icmp_ge (tgt := 82) hx hb d_Ls_init_60 (by decide) (fun _ => ?_) (fun c9 => absurd (by decide) c9)
  obtain ⟨G, hG⟩ : ∃ G : Nat → Nat, G = fun k => ([a0, a1, q0, g0 0, g0 1, g0 2, q1, g1 0, g1 1, g1 2, q2, g2 0, g2 1, g2 2, q3, g3 0, g3 1, g3 2, q4, g4 0, g4 1, g4 2, q5, g5 0, g5 1, g5 2, q6, g6 0, g6 1, g6 2, q7, g7 0, g7 1, g7 2] : List Nat).getD k 0 := ⟨_, rfl⟩
  have hP := lq_ext (k := 1) (f' := fun q => some (G (4 * q + 2))) hP rfl (fun j hj => by match j, hj with | 0, _ => rw [hG]; rfl | 1, _ => rw [hG]; rfl | 2, _ => rw [hG]; rfl | 3, _ => rw [hG]; rfl)
  have hD := lq_extD (k := 1) (f' := fun q => some (G (4 * q + 2))) hD rfl
  have hP := lq_ext (k := 2) (f' := fun q => some (G (4 * (q + 4) + 2))) hP rfl (fun j hj => by match j, hj with | 0, _ => rw [hG]; rfl | 1, _ => rw [hG]; rfl | 2, _ => rw [hG]; rfl | 3, _ => rw [hG]; rfl)
  have hD := lq_extD (k := 2) (f' := fun q => some (G (4 * (q + 4) + 2))) hD rfl
  exact ok_vretI (g := G) F hr hlk (by subst hG; exact hP) (by subst hG; exact hD) hS d_Ls_init_82
end
