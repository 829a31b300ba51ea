section
variable {l : Launch} {D : va_G} {cI cL cZ : ClassId}
def k_Co (cI : ClassId) (h0 : Nat) (g : Nat → Nat) : va_W := [(h0, .inr (0, [.ref (g 0), .ref (g 1), .int 0])), ((g 0), .inl (cI, 5, .inl (fun _ => 0))), ((g 1), .inl (cI, 5, .inl (fun _ => 0)))]
abbrev r_Co : Room := { frames := 1, cells := 2, slots := 10, locals := 20 }
set_option maxHeartbeats 4000000 in
set_option maxRecDepth 100000 in
theorem c_Co_init (h0 : Nat) : ok_MI l y_Co_init (Cond.code y_Co_init b_Co_init 1 none :: tt) r_Co D vwCl (ot cI cL) [(h0, .inr (0, [.null, .null, .int 0]))] (k_Co cI h0) [.ref h0] := by
  refine ok_startI (cc := b_Co_init) (own := RCo) (maxL := 1) (ret := none) (by decide +kernel) rfl rfl (Nat.le_of_ble_eq_true rfl) ?_
  intro p e s m below meth c A F hr hlk hin hZ hA hP hK hD hS ls hl
  have hl : lv_has ls 1 [(0, .ref h0)] := hl
  have hx := F.1
  have hb := F.2.1
  refine lv_aload_n hx hb d_Co_init_0 rfl (lv_at hl 0 rfl) ?_
  refine ok_obj F (tt1 30 rfl rfl) hl.1 d_Co_init_1 (Nat.le_of_ble_eq_true rfl) (Nat.le_of_ble_eq_true rfl) ?_
  refine lv_aload_n hx hb d_Co_init_4 rfl (lv_at hl 0 rfl) ?_
  refine lv_iconst (v := 5) hx hb d_Co_init_5 (by decide) ?_
  refine ok_newa (ty := .int) (a0 := (5, .inl (fun _ => 0))) (cA := cI) 0 F (tt1 41 rfl rfl) rfl hK rfl hP hD hS hA (fun _ => rfl) (by decide) (N' := 5) (by decide) (Nat.le_of_ble_eq_true rfl) (Nat.le_of_ble_eq_true rfl) (Nat.le_of_ble_eq_true rfl) d_Co_init_6 (fun q1 H hP hD hS => ?_)
  have hP : va_P D vwCl [(h0, .inr (0, [.null, .null, .int 0])), (q1, .inl (cI, 5, .inl (fun _ => 0)))] H := hP
  have hD : va_D A [(h0, .inr (0, [.null, .null, .int 0])), (q1, .inl (cI, 5, .inl (fun _ => 0)))] := hD
  refine ok_putF F wuCo tyCo tkCo nmCo hK hP hD hS 0 rfl rfl 0 (Nat.le_of_ble_eq_true rfl) (tt1 31 rfl rfl) rfl hin rfl rfl rfl (Nat.le_of_ble_eq_true rfl) d_Co_init_8 (fun H locs hP hD hS => ?_)
  have hP : va_P D vwCl [(h0, .inr (0, [.ref q1, .null, .int 0])), (q1, .inl (cI, 5, .inl (fun _ => 0)))] H := hP
  have hD : va_D A [(h0, .inr (0, [.ref q1, .null, .int 0])), (q1, .inl (cI, 5, .inl (fun _ => 0)))] := hD
  refine lv_aload_n hx hb d_Co_init_11 rfl (lv_at hl 0 rfl) ?_
  refine lv_iconst (v := 5) hx hb d_Co_init_12 (by decide) ?_
  refine ok_newa (ty := .int) (a0 := (5, .inl (fun _ => 0))) (cA := cI) 0 F (tt1 41 rfl rfl) rfl hK rfl hP hD hS hA (fun _ => rfl) (by decide) (N' := 5) (by decide) (Nat.le_of_ble_eq_true rfl) (Nat.le_of_ble_eq_true rfl) (Nat.le_of_ble_eq_true rfl) d_Co_init_13 (fun q2 H hP hD hS => ?_)
  have hP : va_P D vwCl [(h0, .inr (0, [.ref q1, .null, .int 0])), (q1, .inl (cI, 5, .inl (fun _ => 0))), (q2, .inl (cI, 5, .inl (fun _ => 0)))] H := hP
  have hD : va_D A [(h0, .inr (0, [.ref q1, .null, .int 0])), (q1, .inl (cI, 5, .inl (fun _ => 0))), (q2, .inl (cI, 5, .inl (fun _ => 0)))] := hD
  refine ok_putF F wuCo tyCo tkCo nmCo hK hP hD hS 0 rfl rfl 1 (Nat.le_of_ble_eq_true rfl) (tt1 32 rfl rfl) rfl hin rfl rfl rfl (Nat.le_of_ble_eq_true rfl) d_Co_init_15 (fun H locs hP hD hS => ?_)
  have hP : va_P D vwCl [(h0, .inr (0, [.ref q1, .ref q2, .int 0])), (q1, .inl (cI, 5, .inl (fun _ => 0))), (q2, .inl (cI, 5, .inl (fun _ => 0)))] H := hP
  have hD : va_D A [(h0, .inr (0, [.ref q1, .ref q2, .int 0])), (q1, .inl (cI, 5, .inl (fun _ => 0))), (q2, .inl (cI, 5, .inl (fun _ => 0)))] := hD
  refine lv_aload_n hx hb d_Co_init_18 rfl (lv_at hl 0 rfl) ?_
  refine lv_iconst (v := 0) hx hb d_Co_init_19 (by decide) ?_
  refine ok_putC F wuCo tyCo tkCo nmCo hK hP hD hS 0 rfl rfl 2 (Nat.le_of_ble_eq_true rfl) (tt1 33 rfl rfl) rfl rfl rfl (Nat.le_of_ble_eq_true rfl) d_Co_init_20 (fun H locs hP hD hS => ?_)
  have hP : va_P D vwCl [(h0, .inr (0, [.ref q1, .ref q2, .int 0])), (q1, .inl (cI, 5, .inl (fun _ => 0))), (q2, .inl (cI, 5, .inl (fun _ => 0)))] H := hP
  have hD : va_D A [(h0, .inr (0, [.ref q1, .ref q2, .int 0])), (q1, .inl (cI, 5, .inl (fun _ => 0))), (q2, .inl (cI, 5, .inl (fun _ => 0)))] := hD
  exact ok_vretI (g := fun k => ([q1, q2] : List Nat).getD k 0) F hr hlk hP hD hS d_Co_init_23
def k_Li (cI : ClassId) (h0 : Nat) (g : Nat → Nat) : va_W := [(h0, .inr (1, [.ref (g 0), .int 0, .int 0, .int 0, .ref (g 1), .ref (g 2)])), ((g 0), .inl (cI, 5, .inl (fun _ => 0))), ((g 1), .inl (cI, 6, .inl (fun _ => 0))), ((g 2), .inl (cI, 6, .inl (fun _ => 0)))]
abbrev r_Li : Room := { frames := 1, cells := 3, slots := 17, locals := 20 }
set_option maxHeartbeats 4000000 in
set_option maxRecDepth 100000 in
theorem c_Li_init (h0 : Nat) : ok_MI l y_Li_init (Cond.code y_Li_init b_Li_init 1 none :: tt) r_Li D vwCl (ot cI cL) [(h0, .inr (1, [.null, .int 0, .int 0, .int 0, .null, .null]))] (k_Li cI h0) [.ref h0] := by
  refine ok_startI (cc := b_Li_init) (own := RLi) (maxL := 1) (ret := none) (by decide +kernel) rfl rfl (Nat.le_of_ble_eq_true rfl) ?_
  intro p e s m below meth c A F hr hlk hin hZ hA hP hK hD hS ls hl
  have hl : lv_has ls 1 [(0, .ref h0)] := hl
  have hx := F.1
  have hb := F.2.1
  refine lv_aload_n hx hb d_Li_init_0 rfl (lv_at hl 0 rfl) ?_
  refine ok_obj F (tt1 54 rfl rfl) hl.1 d_Li_init_1 (Nat.le_of_ble_eq_true rfl) (Nat.le_of_ble_eq_true rfl) ?_
  refine lv_aload_n hx hb d_Li_init_4 rfl (lv_at hl 0 rfl) ?_
  refine lv_iconst (v := 5) hx hb d_Li_init_5 (by decide) ?_
  refine ok_newa (ty := .int) (a0 := (5, .inl (fun _ => 0))) (cA := cI) 0 F (tt1 41 rfl rfl) rfl hK rfl hP hD hS hA (fun _ => rfl) (by decide) (N' := 5) (by decide) (Nat.le_of_ble_eq_true rfl) (Nat.le_of_ble_eq_true rfl) (Nat.le_of_ble_eq_true rfl) d_Li_init_6 (fun q1 H hP hD hS => ?_)
  have hP : va_P D vwCl [(h0, .inr (1, [.null, .int 0, .int 0, .int 0, .null, .null])), (q1, .inl (cI, 5, .inl (fun _ => 0)))] H := hP
  have hD : va_D A [(h0, .inr (1, [.null, .int 0, .int 0, .int 0, .null, .null])), (q1, .inl (cI, 5, .inl (fun _ => 0)))] := hD
  refine ok_putF F wuLi tyLi tkLi nmLi hK hP hD hS 0 rfl rfl 0 (Nat.le_of_ble_eq_true rfl) (tt1 55 rfl rfl) rfl hin rfl rfl rfl (Nat.le_of_ble_eq_true rfl) d_Li_init_8 (fun H locs hP hD hS => ?_)
  have hP : va_P D vwCl [(h0, .inr (1, [.ref q1, .int 0, .int 0, .int 0, .null, .null])), (q1, .inl (cI, 5, .inl (fun _ => 0)))] H := hP
  have hD : va_D A [(h0, .inr (1, [.ref q1, .int 0, .int 0, .int 0, .null, .null])), (q1, .inl (cI, 5, .inl (fun _ => 0)))] := hD
  refine lv_aload_n hx hb d_Li_init_11 rfl (lv_at hl 0 rfl) ?_
  refine lv_iconst (v := 0) hx hb d_Li_init_12 (by decide) ?_
  refine ok_putC F wuLi tyLi tkLi nmLi hK hP hD hS 0 rfl rfl 1 (Nat.le_of_ble_eq_true rfl) (tt1 56 rfl rfl) rfl rfl rfl (Nat.le_of_ble_eq_true rfl) d_Li_init_13 (fun H locs hP hD hS => ?_)
  have hP : va_P D vwCl [(h0, .inr (1, [.ref q1, .int 0, .int 0, .int 0, .null, .null])), (q1, .inl (cI, 5, .inl (fun _ => 0)))] H := hP
  have hD : va_D A [(h0, .inr (1, [.ref q1, .int 0, .int 0, .int 0, .null, .null])), (q1, .inl (cI, 5, .inl (fun _ => 0)))] := hD
  refine lv_aload_n hx hb d_Li_init_16 rfl (lv_at hl 0 rfl) ?_
  refine lv_iconst (v := 0) hx hb d_Li_init_17 (by decide) ?_
  refine ok_putC F wuLi tyLi tkLi nmLi hK hP hD hS 0 rfl rfl 2 (Nat.le_of_ble_eq_true rfl) (tt1 57 rfl rfl) rfl rfl rfl (Nat.le_of_ble_eq_true rfl) d_Li_init_18 (fun H locs hP hD hS => ?_)
  have hP : va_P D vwCl [(h0, .inr (1, [.ref q1, .int 0, .int 0, .int 0, .null, .null])), (q1, .inl (cI, 5, .inl (fun _ => 0)))] H := hP
  have hD : va_D A [(h0, .inr (1, [.ref q1, .int 0, .int 0, .int 0, .null, .null])), (q1, .inl (cI, 5, .inl (fun _ => 0)))] := hD
  refine lv_aload_n hx hb d_Li_init_21 rfl (lv_at hl 0 rfl) ?_
  refine lv_iconst (v := 0) hx hb d_Li_init_22 (by decide) ?_
  refine ok_putC F wuLi tyLi tkLi nmLi hK hP hD hS 0 rfl rfl 3 (Nat.le_of_ble_eq_true rfl) (tt1 58 rfl rfl) rfl rfl rfl (Nat.le_of_ble_eq_true rfl) d_Li_init_23 (fun H locs hP hD hS => ?_)
  have hP : va_P D vwCl [(h0, .inr (1, [.ref q1, .int 0, .int 0, .int 0, .null, .null])), (q1, .inl (cI, 5, .inl (fun _ => 0)))] H := hP
  have hD : va_D A [(h0, .inr (1, [.ref q1, .int 0, .int 0, .int 0, .null, .null])), (q1, .inl (cI, 5, .inl (fun _ => 0)))] := hD
  refine lv_aload_n hx hb d_Li_init_26 rfl (lv_at hl 0 rfl) ?_
  refine lv_bipush (v := 6) hx hb d_Li_init_27 (by decide) ?_
  refine ok_newa (ty := .int) (a0 := (6, .inl (fun _ => 0))) (cA := cI) 0 F (tt1 41 rfl rfl) rfl hK rfl hP hD hS hA (fun _ => rfl) (by decide) (N' := 6) (by decide) (Nat.le_of_ble_eq_true rfl) (Nat.le_of_ble_eq_true rfl) (Nat.le_of_ble_eq_true rfl) d_Li_init_29 (fun q2 H hP hD hS => ?_)
  have hP : va_P D vwCl [(h0, .inr (1, [.ref q1, .int 0, .int 0, .int 0, .null, .null])), (q1, .inl (cI, 5, .inl (fun _ => 0))), (q2, .inl (cI, 6, .inl (fun _ => 0)))] H := hP
  have hD : va_D A [(h0, .inr (1, [.ref q1, .int 0, .int 0, .int 0, .null, .null])), (q1, .inl (cI, 5, .inl (fun _ => 0))), (q2, .inl (cI, 6, .inl (fun _ => 0)))] := hD
  refine ok_putF F wuLi tyLi tkLi nmLi hK hP hD hS 0 rfl rfl 4 (Nat.le_of_ble_eq_true rfl) (tt1 59 rfl rfl) rfl hin rfl rfl rfl (Nat.le_of_ble_eq_true rfl) d_Li_init_31 (fun H locs hP hD hS => ?_)
  have hP : va_P D vwCl [(h0, .inr (1, [.ref q1, .int 0, .int 0, .int 0, .ref q2, .null])), (q1, .inl (cI, 5, .inl (fun _ => 0))), (q2, .inl (cI, 6, .inl (fun _ => 0)))] H := hP
  have hD : va_D A [(h0, .inr (1, [.ref q1, .int 0, .int 0, .int 0, .ref q2, .null])), (q1, .inl (cI, 5, .inl (fun _ => 0))), (q2, .inl (cI, 6, .inl (fun _ => 0)))] := hD
  refine lv_aload_n hx hb d_Li_init_34 rfl (lv_at hl 0 rfl) ?_
  refine lv_bipush (v := 6) hx hb d_Li_init_35 (by decide) ?_
  refine ok_newa (ty := .int) (a0 := (6, .inl (fun _ => 0))) (cA := cI) 0 F (tt1 41 rfl rfl) rfl hK rfl hP hD hS hA (fun _ => rfl) (by decide) (N' := 6) (by decide) (Nat.le_of_ble_eq_true rfl) (Nat.le_of_ble_eq_true rfl) (Nat.le_of_ble_eq_true rfl) d_Li_init_37 (fun q3 H hP hD hS => ?_)
  have hP : va_P D vwCl [(h0, .inr (1, [.ref q1, .int 0, .int 0, .int 0, .ref q2, .null])), (q1, .inl (cI, 5, .inl (fun _ => 0))), (q2, .inl (cI, 6, .inl (fun _ => 0))), (q3, .inl (cI, 6, .inl (fun _ => 0)))] H := hP
  have hD : va_D A [(h0, .inr (1, [.ref q1, .int 0, .int 0, .int 0, .ref q2, .null])), (q1, .inl (cI, 5, .inl (fun _ => 0))), (q2, .inl (cI, 6, .inl (fun _ => 0))), (q3, .inl (cI, 6, .inl (fun _ => 0)))] := hD
  refine ok_putF F wuLi tyLi tkLi nmLi hK hP hD hS 0 rfl rfl 5 (Nat.le_of_ble_eq_true rfl) (tt1 60 rfl rfl) rfl hin rfl rfl rfl (Nat.le_of_ble_eq_true rfl) d_Li_init_39 (fun H locs hP hD hS => ?_)
  have hP : va_P D vwCl [(h0, .inr (1, [.ref q1, .int 0, .int 0, .int 0, .ref q2, .ref q3])), (q1, .inl (cI, 5, .inl (fun _ => 0))), (q2, .inl (cI, 6, .inl (fun _ => 0))), (q3, .inl (cI, 6, .inl (fun _ => 0)))] H := hP
  have hD : va_D A [(h0, .inr (1, [.ref q1, .int 0, .int 0, .int 0, .ref q2, .ref q3])), (q1, .inl (cI, 5, .inl (fun _ => 0))), (q2, .inl (cI, 6, .inl (fun _ => 0))), (q3, .inl (cI, 6, .inl (fun _ => 0)))] := hD
  exact ok_vretI (g := fun k => ([q1, q2, q3] : List Nat).getD k 0) F hr hlk hP hD hS d_Li_init_42
def k_Fo (cI : ClassId) (h0 : Nat) (g : Nat → Nat) : va_W := [(h0, .inr (4, [.ref (g 0), .int 0])), ((g 0), .inl (cI, 5, .inl (fun _ => 0)))]
abbrev r_Fo : Room := { frames := 1, cells := 1, slots := 5, locals := 20 }
set_option maxHeartbeats 4000000 in
set_option maxRecDepth 100000 in
theorem c_Fo_init (h0 : Nat) : ok_MI l y_Fo_init (Cond.code y_Fo_init b_Fo_init 1 none :: tt) r_Fo D vwCl (ot cI cL) [(h0, .inr (4, [.null, .int 0]))] (k_Fo cI h0) [.ref h0] := by
  refine ok_startI (cc := b_Fo_init) (own := RFo) (maxL := 1) (ret := none) (by decide +kernel) rfl rfl (Nat.le_of_ble_eq_true rfl) ?_
  intro p e s m below meth c A F hr hlk hin hZ hA hP hK hD hS ls hl
  have hl : lv_has ls 1 [(0, .ref h0)] := hl
  have hx := F.1
  have hb := F.2.1
  refine lv_aload_n hx hb d_Fo_init_0 rfl (lv_at hl 0 rfl) ?_
  refine ok_obj F (tt1 129 rfl rfl) hl.1 d_Fo_init_1 (Nat.le_of_ble_eq_true rfl) (Nat.le_of_ble_eq_true rfl) ?_
  refine lv_aload_n hx hb d_Fo_init_4 rfl (lv_at hl 0 rfl) ?_
  refine lv_iconst (v := 5) hx hb d_Fo_init_5 (by decide) ?_
  refine ok_newa (ty := .int) (a0 := (5, .inl (fun _ => 0))) (cA := cI) 0 F (tt1 41 rfl rfl) rfl hK rfl hP hD hS hA (fun _ => rfl) (by decide) (N' := 5) (by decide) (Nat.le_of_ble_eq_true rfl) (Nat.le_of_ble_eq_true rfl) (Nat.le_of_ble_eq_true rfl) d_Fo_init_6 (fun q1 H hP hD hS => ?_)
  have hP : va_P D vwCl [(h0, .inr (4, [.null, .int 0])), (q1, .inl (cI, 5, .inl (fun _ => 0)))] H := hP
  have hD : va_D A [(h0, .inr (4, [.null, .int 0])), (q1, .inl (cI, 5, .inl (fun _ => 0)))] := hD
  refine ok_putF F wuFo tyFo tkFo nmFo hK hP hD hS 0 rfl rfl 0 (Nat.le_of_ble_eq_true rfl) (tt1 130 rfl rfl) rfl hin rfl rfl rfl (Nat.le_of_ble_eq_true rfl) d_Fo_init_8 (fun H locs hP hD hS => ?_)
  have hP : va_P D vwCl [(h0, .inr (4, [.ref q1, .int 0])), (q1, .inl (cI, 5, .inl (fun _ => 0)))] H := hP
  have hD : va_D A [(h0, .inr (4, [.ref q1, .int 0])), (q1, .inl (cI, 5, .inl (fun _ => 0)))] := hD
  refine lv_aload_n hx hb d_Fo_init_11 rfl (lv_at hl 0 rfl) ?_
  refine lv_iconst (v := 0) hx hb d_Fo_init_12 (by decide) ?_
  refine ok_putC F wuFo tyFo tkFo nmFo hK hP hD hS 0 rfl rfl 1 (Nat.le_of_ble_eq_true rfl) (tt1 131 rfl rfl) rfl rfl rfl (Nat.le_of_ble_eq_true rfl) d_Fo_init_13 (fun H locs hP hD hS => ?_)
  have hP : va_P D vwCl [(h0, .inr (4, [.ref q1, .int 0])), (q1, .inl (cI, 5, .inl (fun _ => 0)))] H := hP
  have hD : va_D A [(h0, .inr (4, [.ref q1, .int 0])), (q1, .inl (cI, 5, .inl (fun _ => 0)))] := hD
  exact ok_vretI (g := fun k => ([q1] : List Nat).getD k 0) F hr hlk hP hD hS d_Fo_init_16
def k_Se (cI : ClassId) (h0 : Nat) (h1 : Nat) (h2 : Nat) (g : Nat → Nat) : va_W := [(h0, .inr (3, [.ref h1, .ref h2, .ref (g 0), .ref (g 1), .ref (g 2), .ref (g 3), .int 0, .int 0, .int 0, .int 0])), ((g 0), .inl (cI, 5, .inl (fun _ => 0))), ((g 1), .inl (cI, 5, .inl (fun _ => 0))), ((g 2), .inl (cI, 6, .inl (fun _ => 0))), ((g 3), .inl (cI, 6, .inl (fun _ => 0)))]
abbrev r_Se : Room := { frames := 1, cells := 4, slots := 22, locals := 20 }
set_option maxHeartbeats 4000000 in
set_option maxRecDepth 100000 in
theorem c_Se_init (h0 : Nat) (h1 : Nat) (h2 : Nat) : ok_MI l y_Se_init (Cond.code y_Se_init b_Se_init 3 none :: tt) r_Se D vwCl (ot cI cL) [(h0, .inr (3, [.null, .null, .null, .null, .null, .null, .int 0, .int 0, .int 0, .int 0]))] (k_Se cI h0 h1 h2) [.ref h0, .ref h1, .ref h2] := by
  refine ok_startI (cc := b_Se_init) (own := RSe) (maxL := 3) (ret := none) (by decide +kernel) rfl rfl (Nat.le_of_ble_eq_true rfl) ?_
  intro p e s m below meth c A F hr hlk hin hZ hA hP hK hD hS ls hl
  have hl : lv_has ls 3 [(0, .ref h0), (1, .ref h1), (2, .ref h2)] := hl
  have hx := F.1
  have hb := F.2.1
  refine lv_aload_n hx hb d_Se_init_0 rfl (lv_at hl 0 rfl) ?_
  refine ok_obj F (tt1 92 rfl rfl) hl.1 d_Se_init_1 (Nat.le_of_ble_eq_true rfl) (Nat.le_of_ble_eq_true rfl) ?_
  refine lv_aload_n hx hb d_Se_init_4 rfl (lv_at hl 0 rfl) ?_
  refine lv_iconst (v := 5) hx hb d_Se_init_5 (by decide) ?_
  refine ok_newa (ty := .int) (a0 := (5, .inl (fun _ => 0))) (cA := cI) 0 F (tt1 41 rfl rfl) rfl hK rfl hP hD hS hA (fun _ => rfl) (by decide) (N' := 5) (by decide) (Nat.le_of_ble_eq_true rfl) (Nat.le_of_ble_eq_true rfl) (Nat.le_of_ble_eq_true rfl) d_Se_init_6 (fun q1 H hP hD hS => ?_)
  have hP : va_P D vwCl [(h0, .inr (3, [.null, .null, .null, .null, .null, .null, .int 0, .int 0, .int 0, .int 0])), (q1, .inl (cI, 5, .inl (fun _ => 0)))] H := hP
  have hD : va_D A [(h0, .inr (3, [.null, .null, .null, .null, .null, .null, .int 0, .int 0, .int 0, .int 0])), (q1, .inl (cI, 5, .inl (fun _ => 0)))] := hD
  refine ok_putF F wuSe tySe tkSe nmSe hK hP hD hS 0 rfl rfl 2 (Nat.le_of_ble_eq_true rfl) (tt1 95 rfl rfl) rfl hin rfl rfl rfl (Nat.le_of_ble_eq_true rfl) d_Se_init_8 (fun H locs hP hD hS => ?_)
  have hP : va_P D vwCl [(h0, .inr (3, [.null, .null, .ref q1, .null, .null, .null, .int 0, .int 0, .int 0, .int 0])), (q1, .inl (cI, 5, .inl (fun _ => 0)))] H := hP
  have hD : va_D A [(h0, .inr (3, [.null, .null, .ref q1, .null, .null, .null, .int 0, .int 0, .int 0, .int 0])), (q1, .inl (cI, 5, .inl (fun _ => 0)))] := hD
  refine lv_aload_n hx hb d_Se_init_11 rfl (lv_at hl 0 rfl) ?_
  refine lv_iconst (v := 5) hx hb d_Se_init_12 (by decide) ?_
  refine ok_newa (ty := .int) (a0 := (5, .inl (fun _ => 0))) (cA := cI) 0 F (tt1 41 rfl rfl) rfl hK rfl hP hD hS hA (fun _ => rfl) (by decide) (N' := 5) (by decide) (Nat.le_of_ble_eq_true rfl) (Nat.le_of_ble_eq_true rfl) (Nat.le_of_ble_eq_true rfl) d_Se_init_13 (fun q2 H hP hD hS => ?_)
  have hP : va_P D vwCl [(h0, .inr (3, [.null, .null, .ref q1, .null, .null, .null, .int 0, .int 0, .int 0, .int 0])), (q1, .inl (cI, 5, .inl (fun _ => 0))), (q2, .inl (cI, 5, .inl (fun _ => 0)))] H := hP
  have hD : va_D A [(h0, .inr (3, [.null, .null, .ref q1, .null, .null, .null, .int 0, .int 0, .int 0, .int 0])), (q1, .inl (cI, 5, .inl (fun _ => 0))), (q2, .inl (cI, 5, .inl (fun _ => 0)))] := hD
  refine ok_putF F wuSe tySe tkSe nmSe hK hP hD hS 0 rfl rfl 3 (Nat.le_of_ble_eq_true rfl) (tt1 96 rfl rfl) rfl hin rfl rfl rfl (Nat.le_of_ble_eq_true rfl) d_Se_init_15 (fun H locs hP hD hS => ?_)
  have hP : va_P D vwCl [(h0, .inr (3, [.null, .null, .ref q1, .ref q2, .null, .null, .int 0, .int 0, .int 0, .int 0])), (q1, .inl (cI, 5, .inl (fun _ => 0))), (q2, .inl (cI, 5, .inl (fun _ => 0)))] H := hP
  have hD : va_D A [(h0, .inr (3, [.null, .null, .ref q1, .ref q2, .null, .null, .int 0, .int 0, .int 0, .int 0])), (q1, .inl (cI, 5, .inl (fun _ => 0))), (q2, .inl (cI, 5, .inl (fun _ => 0)))] := hD
  refine lv_aload_n hx hb d_Se_init_18 rfl (lv_at hl 0 rfl) ?_
  refine lv_bipush (v := 6) hx hb d_Se_init_19 (by decide) ?_
  refine ok_newa (ty := .int) (a0 := (6, .inl (fun _ => 0))) (cA := cI) 0 F (tt1 41 rfl rfl) rfl hK rfl hP hD hS hA (fun _ => rfl) (by decide) (N' := 6) (by decide) (Nat.le_of_ble_eq_true rfl) (Nat.le_of_ble_eq_true rfl) (Nat.le_of_ble_eq_true rfl) d_Se_init_21 (fun q3 H hP hD hS => ?_)
  have hP : va_P D vwCl [(h0, .inr (3, [.null, .null, .ref q1, .ref q2, .null, .null, .int 0, .int 0, .int 0, .int 0])), (q1, .inl (cI, 5, .inl (fun _ => 0))), (q2, .inl (cI, 5, .inl (fun _ => 0))), (q3, .inl (cI, 6, .inl (fun _ => 0)))] H := hP
  have hD : va_D A [(h0, .inr (3, [.null, .null, .ref q1, .ref q2, .null, .null, .int 0, .int 0, .int 0, .int 0])), (q1, .inl (cI, 5, .inl (fun _ => 0))), (q2, .inl (cI, 5, .inl (fun _ => 0))), (q3, .inl (cI, 6, .inl (fun _ => 0)))] := hD
  refine ok_putF F wuSe tySe tkSe nmSe hK hP hD hS 0 rfl rfl 4 (Nat.le_of_ble_eq_true rfl) (tt1 97 rfl rfl) rfl hin rfl rfl rfl (Nat.le_of_ble_eq_true rfl) d_Se_init_23 (fun H locs hP hD hS => ?_)
  have hP : va_P D vwCl [(h0, .inr (3, [.null, .null, .ref q1, .ref q2, .ref q3, .null, .int 0, .int 0, .int 0, .int 0])), (q1, .inl (cI, 5, .inl (fun _ => 0))), (q2, .inl (cI, 5, .inl (fun _ => 0))), (q3, .inl (cI, 6, .inl (fun _ => 0)))] H := hP
  have hD : va_D A [(h0, .inr (3, [.null, .null, .ref q1, .ref q2, .ref q3, .null, .int 0, .int 0, .int 0, .int 0])), (q1, .inl (cI, 5, .inl (fun _ => 0))), (q2, .inl (cI, 5, .inl (fun _ => 0))), (q3, .inl (cI, 6, .inl (fun _ => 0)))] := hD
  refine lv_aload_n hx hb d_Se_init_26 rfl (lv_at hl 0 rfl) ?_
  refine lv_bipush (v := 6) hx hb d_Se_init_27 (by decide) ?_
  refine ok_newa (ty := .int) (a0 := (6, .inl (fun _ => 0))) (cA := cI) 0 F (tt1 41 rfl rfl) rfl hK rfl hP hD hS hA (fun _ => rfl) (by decide) (N' := 6) (by decide) (Nat.le_of_ble_eq_true rfl) (Nat.le_of_ble_eq_true rfl) (Nat.le_of_ble_eq_true rfl) d_Se_init_29 (fun q4 H hP hD hS => ?_)
  have hP : va_P D vwCl [(h0, .inr (3, [.null, .null, .ref q1, .ref q2, .ref q3, .null, .int 0, .int 0, .int 0, .int 0])), (q1, .inl (cI, 5, .inl (fun _ => 0))), (q2, .inl (cI, 5, .inl (fun _ => 0))), (q3, .inl (cI, 6, .inl (fun _ => 0))), (q4, .inl (cI, 6, .inl (fun _ => 0)))] H := hP
  have hD : va_D A [(h0, .inr (3, [.null, .null, .ref q1, .ref q2, .ref q3, .null, .int 0, .int 0, .int 0, .int 0])), (q1, .inl (cI, 5, .inl (fun _ => 0))), (q2, .inl (cI, 5, .inl (fun _ => 0))), (q3, .inl (cI, 6, .inl (fun _ => 0))), (q4, .inl (cI, 6, .inl (fun _ => 0)))] := hD
  refine ok_putF F wuSe tySe tkSe nmSe hK hP hD hS 0 rfl rfl 5 (Nat.le_of_ble_eq_true rfl) (tt1 98 rfl rfl) rfl hin rfl rfl rfl (Nat.le_of_ble_eq_true rfl) d_Se_init_31 (fun H locs hP hD hS => ?_)
  have hP : va_P D vwCl [(h0, .inr (3, [.null, .null, .ref q1, .ref q2, .ref q3, .ref q4, .int 0, .int 0, .int 0, .int 0])), (q1, .inl (cI, 5, .inl (fun _ => 0))), (q2, .inl (cI, 5, .inl (fun _ => 0))), (q3, .inl (cI, 6, .inl (fun _ => 0))), (q4, .inl (cI, 6, .inl (fun _ => 0)))] H := hP
  have hD : va_D A [(h0, .inr (3, [.null, .null, .ref q1, .ref q2, .ref q3, .ref q4, .int 0, .int 0, .int 0, .int 0])), (q1, .inl (cI, 5, .inl (fun _ => 0))), (q2, .inl (cI, 5, .inl (fun _ => 0))), (q3, .inl (cI, 6, .inl (fun _ => 0))), (q4, .inl (cI, 6, .inl (fun _ => 0)))] := hD
  refine lv_aload_n hx hb d_Se_init_34 rfl (lv_at hl 0 rfl) ?_
  refine lv_iconst (v := 0) hx hb d_Se_init_35 (by decide) ?_
  refine ok_putC F wuSe tySe tkSe nmSe hK hP hD hS 0 rfl rfl 6 (Nat.le_of_ble_eq_true rfl) (tt1 99 rfl rfl) rfl rfl rfl (Nat.le_of_ble_eq_true rfl) d_Se_init_36 (fun H locs hP hD hS => ?_)
  have hP : va_P D vwCl [(h0, .inr (3, [.null, .null, .ref q1, .ref q2, .ref q3, .ref q4, .int 0, .int 0, .int 0, .int 0])), (q1, .inl (cI, 5, .inl (fun _ => 0))), (q2, .inl (cI, 5, .inl (fun _ => 0))), (q3, .inl (cI, 6, .inl (fun _ => 0))), (q4, .inl (cI, 6, .inl (fun _ => 0)))] H := hP
  have hD : va_D A [(h0, .inr (3, [.null, .null, .ref q1, .ref q2, .ref q3, .ref q4, .int 0, .int 0, .int 0, .int 0])), (q1, .inl (cI, 5, .inl (fun _ => 0))), (q2, .inl (cI, 5, .inl (fun _ => 0))), (q3, .inl (cI, 6, .inl (fun _ => 0))), (q4, .inl (cI, 6, .inl (fun _ => 0)))] := hD
  refine lv_aload_n hx hb d_Se_init_39 rfl (lv_at hl 0 rfl) ?_
  refine lv_iconst (v := 0) hx hb d_Se_init_40 (by decide) ?_
  refine ok_putC F wuSe tySe tkSe nmSe hK hP hD hS 0 rfl rfl 7 (Nat.le_of_ble_eq_true rfl) (tt1 100 rfl rfl) rfl rfl rfl (Nat.le_of_ble_eq_true rfl) d_Se_init_41 (fun H locs hP hD hS => ?_)
  have hP : va_P D vwCl [(h0, .inr (3, [.null, .null, .ref q1, .ref q2, .ref q3, .ref q4, .int 0, .int 0, .int 0, .int 0])), (q1, .inl (cI, 5, .inl (fun _ => 0))), (q2, .inl (cI, 5, .inl (fun _ => 0))), (q3, .inl (cI, 6, .inl (fun _ => 0))), (q4, .inl (cI, 6, .inl (fun _ => 0)))] H := hP
  have hD : va_D A [(h0, .inr (3, [.null, .null, .ref q1, .ref q2, .ref q3, .ref q4, .int 0, .int 0, .int 0, .int 0])), (q1, .inl (cI, 5, .inl (fun _ => 0))), (q2, .inl (cI, 5, .inl (fun _ => 0))), (q3, .inl (cI, 6, .inl (fun _ => 0))), (q4, .inl (cI, 6, .inl (fun _ => 0)))] := hD
  refine lv_aload_n hx hb d_Se_init_44 rfl (lv_at hl 0 rfl) ?_
  refine lv_iconst (v := 0) hx hb d_Se_init_45 (by decide) ?_
  refine ok_putC F wuSe tySe tkSe nmSe hK hP hD hS 0 rfl rfl 8 (Nat.le_of_ble_eq_true rfl) (tt1 101 rfl rfl) rfl rfl rfl (Nat.le_of_ble_eq_true rfl) d_Se_init_46 (fun H locs hP hD hS => ?_)
  have hP : va_P D vwCl [(h0, .inr (3, [.null, .null, .ref q1, .ref q2, .ref q3, .ref q4, .int 0, .int 0, .int 0, .int 0])), (q1, .inl (cI, 5, .inl (fun _ => 0))), (q2, .inl (cI, 5, .inl (fun _ => 0))), (q3, .inl (cI, 6, .inl (fun _ => 0))), (q4, .inl (cI, 6, .inl (fun _ => 0)))] H := hP
  have hD : va_D A [(h0, .inr (3, [.null, .null, .ref q1, .ref q2, .ref q3, .ref q4, .int 0, .int 0, .int 0, .int 0])), (q1, .inl (cI, 5, .inl (fun _ => 0))), (q2, .inl (cI, 5, .inl (fun _ => 0))), (q3, .inl (cI, 6, .inl (fun _ => 0))), (q4, .inl (cI, 6, .inl (fun _ => 0)))] := hD
  refine lv_aload_n hx hb d_Se_init_49 rfl (lv_at hl 0 rfl) ?_
  refine lv_iconst (v := 0) hx hb d_Se_init_50 (by decide) ?_
  refine ok_putC F wuSe tySe tkSe nmSe hK hP hD hS 0 rfl rfl 9 (Nat.le_of_ble_eq_true rfl) (tt1 102 rfl rfl) rfl rfl rfl (Nat.le_of_ble_eq_true rfl) d_Se_init_51 (fun H locs hP hD hS => ?_)
  have hP : va_P D vwCl [(h0, .inr (3, [.null, .null, .ref q1, .ref q2, .ref q3, .ref q4, .int 0, .int 0, .int 0, .int 0])), (q1, .inl (cI, 5, .inl (fun _ => 0))), (q2, .inl (cI, 5, .inl (fun _ => 0))), (q3, .inl (cI, 6, .inl (fun _ => 0))), (q4, .inl (cI, 6, .inl (fun _ => 0)))] H := hP
  have hD : va_D A [(h0, .inr (3, [.null, .null, .ref q1, .ref q2, .ref q3, .ref q4, .int 0, .int 0, .int 0, .int 0])), (q1, .inl (cI, 5, .inl (fun _ => 0))), (q2, .inl (cI, 5, .inl (fun _ => 0))), (q3, .inl (cI, 6, .inl (fun _ => 0))), (q4, .inl (cI, 6, .inl (fun _ => 0)))] := hD
  refine lv_aload_n hx hb d_Se_init_54 rfl (lv_at hl 0 rfl) ?_
  refine lv_aload_n hx hb d_Se_init_55 rfl (lv_at hl 1 rfl) ?_
  refine ok_putF F wuSe tySe tkSe nmSe hK hP hD hS 0 rfl rfl 0 (Nat.le_of_ble_eq_true rfl) (tt1 93 rfl rfl) rfl hin rfl rfl rfl (Nat.le_of_ble_eq_true rfl) d_Se_init_56 (fun H locs hP hD hS => ?_)
  have hP : va_P D vwCl [(h0, .inr (3, [.ref h1, .null, .ref q1, .ref q2, .ref q3, .ref q4, .int 0, .int 0, .int 0, .int 0])), (q1, .inl (cI, 5, .inl (fun _ => 0))), (q2, .inl (cI, 5, .inl (fun _ => 0))), (q3, .inl (cI, 6, .inl (fun _ => 0))), (q4, .inl (cI, 6, .inl (fun _ => 0)))] H := hP
  have hD : va_D A [(h0, .inr (3, [.ref h1, .null, .ref q1, .ref q2, .ref q3, .ref q4, .int 0, .int 0, .int 0, .int 0])), (q1, .inl (cI, 5, .inl (fun _ => 0))), (q2, .inl (cI, 5, .inl (fun _ => 0))), (q3, .inl (cI, 6, .inl (fun _ => 0))), (q4, .inl (cI, 6, .inl (fun _ => 0)))] := hD
  refine lv_aload_n hx hb d_Se_init_59 rfl (lv_at hl 0 rfl) ?_
  refine lv_aload_n hx hb d_Se_init_60 rfl (lv_at hl 2 rfl) ?_
  refine ok_putF F wuSe tySe tkSe nmSe hK hP hD hS 0 rfl rfl 1 (Nat.le_of_ble_eq_true rfl) (tt1 94 rfl rfl) rfl hin rfl rfl rfl (Nat.le_of_ble_eq_true rfl) d_Se_init_61 (fun H locs hP hD hS => ?_)
  have hP : va_P D vwCl [(h0, .inr (3, [.ref h1, .ref h2, .ref q1, .ref q2, .ref q3, .ref q4, .int 0, .int 0, .int 0, .int 0])), (q1, .inl (cI, 5, .inl (fun _ => 0))), (q2, .inl (cI, 5, .inl (fun _ => 0))), (q3, .inl (cI, 6, .inl (fun _ => 0))), (q4, .inl (cI, 6, .inl (fun _ => 0)))] H := hP
  have hD : va_D A [(h0, .inr (3, [.ref h1, .ref h2, .ref q1, .ref q2, .ref q3, .ref q4, .int 0, .int 0, .int 0, .int 0])), (q1, .inl (cI, 5, .inl (fun _ => 0))), (q2, .inl (cI, 5, .inl (fun _ => 0))), (q3, .inl (cI, 6, .inl (fun _ => 0))), (q4, .inl (cI, 6, .inl (fun _ => 0)))] := hD
  exact ok_vretI (g := fun k => ([q1, q2, q3, q4] : List Nat).getD k 0) F hr hlk hP hD hS d_Se_init_64
end
