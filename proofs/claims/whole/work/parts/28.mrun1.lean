section
variable {l : Launch} {D : va_G} {cI cZ : ClassId} {ad : Nat → Nat}
variable {p : Program} {e : Env} {R : Room} {s : State} {m : MethodId} {args : Array Value} {below : List Frame} {meth : Method} {c : Code} {H : Heap} {locs : List Loc} {cells slots : Nat} {Q : State → Prop} {cc : ByteArray} {pc nL index : Nat} {ls : Array Slot} {rest : List Value} {A : Nat → Prop} {H0 : Heap} {cw : Cond} {own : String}
set_option maxHeartbeats 4000000 in
set_option maxRecDepth 100000 in
theorem c_Mo_run_1 (σ : oS) {x : Int32} (h1 : mo_in x 0 100000 = 0) : ok_MM l y_Mo_run (Cond.code y_Mo_run b_Mo_run 3 (some .int) :: tt) { frames := 1, cells := 0, slots := 0, locals := 22 } D vwCl (mt cI cZ) (mw cI cZ ad σ) (mw cI cZ ad (u3 σ 0 0 0 1)) [.ref (ad 0), .int x] (some (.int 0)) := by
  refine ok_startM (cc := b_Mo_run) (own := RMo) (maxL := 3) (ret := (some .int)) (by decide +kernel) rfl rfl (Nat.le_of_ble_eq_true rfl) ?_
  intro p e s m below meth c A F hr hlk hA hP hK hD hS ls hl
  have hl : lv_has ls 3 [(0, .ref (ad 0)), (1, .int x)] := hl
  have hx := F.1
  have hb := F.2.1
  refine lv_aload_n hx hb d_Mo_run_0 rfl (lv_at hl 0 rfl) ?_
  refine lv_iload_n hx hb d_Mo_run_1 rfl (lv_at hl 1 rfl) ?_
  refine lv_iconst (v := 0) hx hb d_Mo_run_2 (by decide) ?_
  refine lv_ldc (v := 100000) hx hb F.2.2.2.1 (F.2.2.2.2 (.constant RMo 121 (100000)) (List.mem_cons_of_mem _ (tt4 30 rfl rfl))) d_Mo_run_3 ?_
  refine x_Mo_in F (tt3 227 rfl rfl) ⟨Nat.le_of_ble_eq_true rfl, Nat.le_of_ble_eq_true rfl⟩ hK hP hl.1 (Nat.le_of_ble_eq_true rfl) ⟨Nat.zero_le _, Nat.zero_le _⟩ d_Mo_run_5 ?_
  refine lv_iconst (v := 1) hx hb d_Mo_run_8 (by decide) ?_
  refine x_Mo_goes F (tt3 230 rfl rfl) ⟨Nat.le_of_ble_eq_true rfl, Nat.le_of_ble_eq_true rfl⟩ hK hP hD hS hA hl.1 (Nat.le_of_ble_eq_true rfl) ⟨Nat.zero_le _, Nat.zero_le _⟩ d_Mo_run_9 (fun H locs hP hD hS => ?_)
  have ew : u3 σ 0 0 0 (mo_g (mo_in x 0 100000) 1) = u3 σ 0 0 0 1 := by rw [h1]; rfl
  rw [ew] at hP hD
  clear ew
  refine lv_if_ne (tgt := 17) hx hb d_Mo_run_12 (by decide) (fun c1 => ?_) (fun c1 => ?_)
  · exact absurd (by rw [h1]; decide) c1
  · refine lv_iconst (v := 0) hx hb d_Mo_run_15 (by decide) ?_
    exact ok_iretM F hr hlk hP hD hS (rfl) d_Mo_run_16
theorem x_Mo_run_1 {σ : oS} {x : Int32} (h1 : mo_in x 0 100000 = 0) (F : CallFix p m c cc nL s args (cw :: tt) own) (hG : Cond.methodLink own index y_Mo_run ∈ tt) (hR : 1 + 1 ≤ R.frames ∧ 8 + (3 + 11) + 22 ≤ R.locals) (hK : va_K D vwCl (mt cI cZ) s) (hP : va_P D vwCl (mw cI cZ ad σ) H) (hD : va_D A (mw cI cZ ad σ)) (hS : va_S A H0 H locs) (hA : ∀ q, H0.size ≤ q → A q) (hsz : ls.size = nL) (hW : (rest.map fun v => v.category).sum ≤ 8) (hcs : cells ≤ R.cells ∧ slots ≤ R.slots) (hdg : decode cc pc = .ok (.invokevirtual index, 3)) (kk : ∀ (H1 : Heap) (locs1 : List Loc), va_P D vwCl (mw cI cZ ad (u3 σ 0 0 0 1)) H1 → va_D A (mw cI cZ ad (u3 σ 0 0 0 1)) → va_S A H0 H1 locs1 → W p l e R s m args below meth c H1 locs1 cells slots Q (F0 m (pc + 3) ls (.int 0 :: rest))) : W p l e R s m args below meth c H locs cells slots Q (F0 m pc ls (.int x :: .ref (ad 0) :: rest)) :=
  ok_VM (As := [.int x]) F (c_Mo_run_1 σ h1) 1 (tt_V hG i_Mo_run l_Mo_run in9_Mo k_Mo_run) rfl ⟨rfl, rfl⟩ (by decide +kernel) hR hK hP hD hS hA (0) 6 rfl rfl mw_0 rfl hsz rfl hW hcs hdg kk
end
