section
variable {l : Launch} {D : va_G} {cI cL cZ : ClassId}
def zz : oS := fun _ _ _ => 0
def ad0 (h0 : Nat) (g : Nat → Nat) (k : Nat) : Nat := if k = 0 then h0 else g k
theorem k_Mo_eq {h0 : Nat} {g : Nat → Nat} : k_Mo cI cZ h0 g = mw cI cZ (ad0 h0 (fun k => g (k - 1))) zz := rfl
abbrev r_OB : Room := { frames := 3, cells := 45, slots := 248, locals := 90 }
abbrev k_OB (cI cL : ClassId) (h0 : Nat) (g : Nat → Nat) : va_W := ow cI cL (ad0 h0 g) zz
set_option maxHeartbeats 16000000 in
set_option maxRecDepth 100000 in
theorem c_OB_init (h0 : Nat) : ok_MI l y_OB_init (Cond.code y_OB_init b_OB_init 1 none :: tt) r_OB D vwCl (ot cI cL) [(h0, .inr (5, [.null, .null, .null, .null]))] (k_OB cI cL h0) [.ref h0] := by
  refine ok_startI (cc := b_OB_init) (own := ROB) (maxL := 1) (ret := none) (by decide +kernel) rfl rfl (Nat.le_of_ble_eq_true rfl) ?_
  intro p e s m below meth c A F hr hlk hin hZ hA hP hK hD hS ls hl
  have hl : lv_has ls 1 [(0, .ref h0)] := hl
  have hx := F.1
  have hb := F.2.1
  refine lv_aload_n hx hb d_OB_init_0 rfl (lv_at hl 0 rfl) ?_
  refine ok_obj F (tt1 22 rfl rfl) hl.1 d_OB_init_1 (Nat.le_of_ble_eq_true rfl) (Nat.le_of_ble_eq_true rfl) ?_
  refine lv_aload_n hx hb d_OB_init_4 rfl (lv_at hl 0 rfl) ?_
  refine ok_new (ci := 0) (fs := [.null, .null, .int 0]) F wuCo tyCo tkCo (tt1 25 rfl rfl) (tt1 26 rfl rfl) in9_Co hK hP hD hS hA rfl (fun j hj => by match j, hj with | 0, _ => rfl | 1, _ => rfl | 2, _ => rfl) (Nat.le_of_ble_eq_true rfl) (Nat.le_of_ble_eq_true rfl) d_OB_init_5 (fun q1 H hP hD hS => ?_)
  refine lv_dup hx hb d_OB_init_8 rfl ?_
  refine ok_IN (host := ROB) (rm := r_Co) (wr := [(h0, .inr (5, [.null, .null, .null, .null]))]) (As := []) F (c_Co_init q1) 0 (tt_C k_Co_init) rfl in9_Co hZ.1 i_Co_init rfl (by decide +kernel) ⟨Nat.le_of_ble_eq_true rfl, Nat.le_of_ble_eq_true rfl⟩ hK hZ hP hD hS hA rfl hl.1 rfl (Nat.le_of_ble_eq_true rfl) ⟨Nat.le_of_ble_eq_true rfl, Nat.le_of_ble_eq_true rfl⟩ d_OB_init_9 (fun g1 H locs hP hD hS => ?_)
  have hP : va_P D vwCl ([(h0, .inr (5, [.null, .null, .null, .null]))] ++ k_Co cI q1 g1) H := hP
  have hD : va_D A ([(h0, .inr (5, [.null, .null, .null, .null]))] ++ k_Co cI q1 g1) := hD
  refine ok_putF F wuOB tyOB tkOB nmOB hK hP hD hS 0 rfl rfl 0 (Nat.le_of_ble_eq_true rfl) (tt1 137 rfl rfl) rfl hin rfl rfl rfl (Nat.le_of_ble_eq_true rfl) d_OB_init_12 (fun H locs hP hD hS => ?_)
  have hP : va_P D vwCl ([(h0, .inr (5, [.ref q1, .null, .null, .null]))] ++ k_Co cI q1 g1) H := hP
  have hD : va_D A ([(h0, .inr (5, [.ref q1, .null, .null, .null]))] ++ k_Co cI q1 g1) := hD
  refine lv_aload_n hx hb d_OB_init_15 rfl (lv_at hl 0 rfl) ?_
  refine ok_new (ci := 2) (fs := [.null, .null, .int 0, .int 0]) F wuLs tyLs tkLs (tt1 42 rfl rfl) (tt1 43 rfl rfl) in9_Ls hK hP hD hS hA rfl (fun j hj => by match j, hj with | 0, _ => rfl | 1, _ => rfl | 2, _ => rfl | 3, _ => rfl) (Nat.le_of_ble_eq_true rfl) (Nat.le_of_ble_eq_true rfl) d_OB_init_16 (fun q2 H hP hD hS => ?_)
  refine lv_dup hx hb d_OB_init_19 rfl ?_
  refine ok_I (rm := r_Ls) (wr := [(h0, .inr (5, [.ref q1, .null, .null, .null]))] ++ k_Co cI q1 g1) (As := []) F (c_Ls_init q2) 0 (tt_C k_Ls_init) rfl in9_Ls (tt1 44 rfl rfl) i_Ls_init rfl (by decide +kernel) ⟨Nat.le_of_ble_eq_true rfl, Nat.le_of_ble_eq_true rfl⟩ hK hZ hP hD hS hA rfl hl.1 rfl (Nat.le_of_ble_eq_true rfl) ⟨Nat.le_of_ble_eq_true rfl, Nat.le_of_ble_eq_true rfl⟩ d_OB_init_20 (fun g2 H locs hP hD hS => ?_)
  have hP : va_P D vwCl ([(h0, .inr (5, [.ref q1, .null, .null, .null]))] ++ k_Co cI q1 g1 ++ k_Ls cI cL q2 g2) H := hP
  have hD : va_D A ([(h0, .inr (5, [.ref q1, .null, .null, .null]))] ++ k_Co cI q1 g1 ++ k_Ls cI cL q2 g2) := hD
  refine ok_putF F wuOB tyOB tkOB nmOB hK hP hD hS 0 rfl rfl 1 (Nat.le_of_ble_eq_true rfl) (tt1 138 rfl rfl) rfl hin rfl rfl rfl (Nat.le_of_ble_eq_true rfl) d_OB_init_23 (fun H locs hP hD hS => ?_)
  have hP : va_P D vwCl ([(h0, .inr (5, [.ref q1, .ref q2, .null, .null]))] ++ k_Co cI q1 g1 ++ k_Ls cI cL q2 g2) H := hP
  have hD : va_D A ([(h0, .inr (5, [.ref q1, .ref q2, .null, .null]))] ++ k_Co cI q1 g1 ++ k_Ls cI cL q2 g2) := hD
  refine lv_aload_n hx hb d_OB_init_26 rfl (lv_at hl 0 rfl) ?_
  refine ok_new (ci := 3) (fs := [.null, .null, .null, .null, .null, .null, .int 0, .int 0, .int 0, .int 0]) F wuSe tySe tkSe (tt1 87 rfl rfl) (tt1 88 rfl rfl) in9_Se hK hP hD hS hA rfl (fun j hj => by match j, hj with | 0, _ => rfl | 1, _ => rfl | 2, _ => rfl | 3, _ => rfl | 4, _ => rfl | 5, _ => rfl | 6, _ => rfl | 7, _ => rfl | 8, _ => rfl | 9, _ => rfl) (Nat.le_of_ble_eq_true rfl) (Nat.le_of_ble_eq_true rfl) d_OB_init_27 (fun q3 H hP hD hS => ?_)
  refine lv_dup hx hb d_OB_init_30 rfl ?_
  refine lv_aload_n hx hb d_OB_init_31 rfl (lv_at hl 0 rfl) ?_
  refine va_get hx hb F.2.2.2.2 (fun w h => List.mem_cons_of_mem _ (wuOB w h)) F.2.2.2.1 hK hP 0 rfl rfl 0 (Nat.le_of_ble_eq_true rfl) (F.2.2.2.2 _ (List.mem_cons_of_mem _ (tt1 137 rfl rfl))) (fun _ h => h) rfl d_OB_init_32 ?_
  refine lv_aload_n hx hb d_OB_init_35 rfl (lv_at hl 0 rfl) ?_
  refine va_get hx hb F.2.2.2.2 (fun w h => List.mem_cons_of_mem _ (wuOB w h)) F.2.2.2.1 hK hP 0 rfl rfl 1 (Nat.le_of_ble_eq_true rfl) (F.2.2.2.2 _ (List.mem_cons_of_mem _ (tt1 138 rfl rfl))) (fun _ h => h) rfl d_OB_init_36 ?_
  refine ok_I (rm := r_Se) (wr := [(h0, .inr (5, [.ref q1, .ref q2, .null, .null]))] ++ k_Co cI q1 g1 ++ k_Ls cI cL q2 g2) (As := [.ref q1, .ref q2]) F (c_Se_init q3 q1 q2) 2 (tt_C k_Se_init) rfl in9_Se (tt1 89 rfl rfl) i_Se_init rfl (by decide +kernel) ⟨Nat.le_of_ble_eq_true rfl, Nat.le_of_ble_eq_true rfl⟩ hK hZ hP hD hS hA rfl hl.1 rfl (Nat.le_of_ble_eq_true rfl) ⟨Nat.le_of_ble_eq_true rfl, Nat.le_of_ble_eq_true rfl⟩ d_OB_init_39 (fun g3 H locs hP hD hS => ?_)
  have hP : va_P D vwCl ([(h0, .inr (5, [.ref q1, .ref q2, .null, .null]))] ++ k_Co cI q1 g1 ++ k_Ls cI cL q2 g2 ++ k_Se cI q3 q1 q2 g3) H := hP
  have hD : va_D A ([(h0, .inr (5, [.ref q1, .ref q2, .null, .null]))] ++ k_Co cI q1 g1 ++ k_Ls cI cL q2 g2 ++ k_Se cI q3 q1 q2 g3) := hD
  refine ok_putF F wuOB tyOB tkOB nmOB hK hP hD hS 0 rfl rfl 2 (Nat.le_of_ble_eq_true rfl) (tt1 139 rfl rfl) rfl hin rfl rfl rfl (Nat.le_of_ble_eq_true rfl) d_OB_init_42 (fun H locs hP hD hS => ?_)
  have hP : va_P D vwCl ([(h0, .inr (5, [.ref q1, .ref q2, .ref q3, .null]))] ++ k_Co cI q1 g1 ++ k_Ls cI cL q2 g2 ++ k_Se cI q3 q1 q2 g3) H := hP
  have hD : va_D A ([(h0, .inr (5, [.ref q1, .ref q2, .ref q3, .null]))] ++ k_Co cI q1 g1 ++ k_Ls cI cL q2 g2 ++ k_Se cI q3 q1 q2 g3) := hD
  refine lv_aload_n hx hb d_OB_init_45 rfl (lv_at hl 0 rfl) ?_
  refine ok_new (ci := 4) (fs := [.null, .int 0]) F wuFo tyFo tkFo (tt1 124 rfl rfl) (tt1 125 rfl rfl) in9_Fo hK hP hD hS hA rfl (fun j hj => by match j, hj with | 0, _ => rfl | 1, _ => rfl) (Nat.le_of_ble_eq_true rfl) (Nat.le_of_ble_eq_true rfl) d_OB_init_46 (fun q4 H hP hD hS => ?_)
  refine lv_dup hx hb d_OB_init_49 rfl ?_
  refine ok_IN (host := ROB) (rm := r_Fo) (wr := [(h0, .inr (5, [.ref q1, .ref q2, .ref q3, .null]))] ++ k_Co cI q1 g1 ++ k_Ls cI cL q2 g2 ++ k_Se cI q3 q1 q2 g3) (As := []) F (c_Fo_init q4) 0 (tt_C k_Fo_init) rfl in9_Fo hZ.2.2.1 i_Fo_init rfl (by decide +kernel) ⟨Nat.le_of_ble_eq_true rfl, Nat.le_of_ble_eq_true rfl⟩ hK hZ hP hD hS hA rfl hl.1 rfl (Nat.le_of_ble_eq_true rfl) ⟨Nat.le_of_ble_eq_true rfl, Nat.le_of_ble_eq_true rfl⟩ d_OB_init_50 (fun g4 H locs hP hD hS => ?_)
  have hP : va_P D vwCl ([(h0, .inr (5, [.ref q1, .ref q2, .ref q3, .null]))] ++ k_Co cI q1 g1 ++ k_Ls cI cL q2 g2 ++ k_Se cI q3 q1 q2 g3 ++ k_Fo cI q4 g4) H := hP
  have hD : va_D A ([(h0, .inr (5, [.ref q1, .ref q2, .ref q3, .null]))] ++ k_Co cI q1 g1 ++ k_Ls cI cL q2 g2 ++ k_Se cI q3 q1 q2 g3 ++ k_Fo cI q4 g4) := hD
  refine ok_putF F wuOB tyOB tkOB nmOB hK hP hD hS 0 rfl rfl 3 (Nat.le_of_ble_eq_true rfl) (tt1 140 rfl rfl) rfl hin rfl rfl rfl (Nat.le_of_ble_eq_true rfl) d_OB_init_53 (fun H locs hP hD hS => ?_)
  have hP : va_P D vwCl ([(h0, .inr (5, [.ref q1, .ref q2, .ref q3, .ref q4]))] ++ k_Co cI q1 g1 ++ k_Ls cI cL q2 g2 ++ k_Se cI q3 q1 q2 g3 ++ k_Fo cI q4 g4) H := hP
  have hD : va_D A ([(h0, .inr (5, [.ref q1, .ref q2, .ref q3, .ref q4]))] ++ k_Co cI q1 g1 ++ k_Ls cI cL q2 g2 ++ k_Se cI q3 q1 q2 g3 ++ k_Fo cI q4 g4) := hD
  obtain ⟨G, hG⟩ : ∃ G : Nat → Nat, G = fun k => if k < 14 then ([h0, q1, g1 0, g1 1, q2, g2 0, g2 1, q3, g3 0, g3 1, g3 2, g3 3, q4, g4 0] : List Nat).getD k 0 else g2 (k - 12) := ⟨_, rfl⟩
  have hP := lq_ext (k := 5) (f' := fun q => some (ad0 h0 G (4 * q + 14))) hP rfl (fun j hj => by match j, hj with | 0, _ => rw [hG]; rfl | 1, _ => rw [hG]; rfl | 2, _ => rw [hG]; rfl | 3, _ => rw [hG]; rfl)
  have hD := lq_extD (k := 5) (f' := fun q => some (ad0 h0 G (4 * q + 14))) hD rfl
  have hP := lq_ext (k := 6) (f' := fun q => some (ad0 h0 G (4 * (q + 4) + 14))) hP rfl (fun j hj => by match j, hj with | 0, _ => rw [hG]; rfl | 1, _ => rw [hG]; rfl | 2, _ => rw [hG]; rfl | 3, _ => rw [hG]; rfl)
  have hD := lq_extD (k := 6) (f' := fun q => some (ad0 h0 G (4 * (q + 4) + 14))) hD rfl
  have hP := hP.sub (ws' := ow cI cL (ad0 h0 G) zz) [0, 1, 2, 3, 4, 5, 6, 39, 40, 41, 42, 43, 44, 45, 7, 8, 9, 10, 11, 12, 13, 14, 15, 16, 17, 18, 19, 20, 21, 22, 23, 24, 25, 26, 27, 28, 29, 30, 31, 32, 33, 34, 35, 36, 37, 38] (by subst hG; rfl)
  have hD := hD.sub (ws' := ow cI cL (ad0 h0 G) zz) [0, 1, 2, 3, 4, 5, 6, 39, 40, 41, 42, 43, 44, 45, 7, 8, 9, 10, 11, 12, 13, 14, 15, 16, 17, 18, 19, 20, 21, 22, 23, 24, 25, 26, 27, 28, 29, 30, 31, 32, 33, 34, 35, 36, 37, 38] (by decide) (by subst hG; rfl)
  exact ok_vretI (g := G) F hr hlk hP hD hS d_OB_init_56
end
