-- run of the reference: K says what is done at a number that is to be given
def mo_E (τ : oS) : oS × Int32 := (u3 (u3 τ 5 0 0 (-1)) 6 0 0 1, if τ 7 0 0 = 0 then 1 else 0)
def mo_N (K : Nat → oS → oS × Int32) : Nat → oS → oS × Int32
  | 0, τ => if τ 19 0 0 < 0 then mo_E τ else K 0 τ
  | q + 1, τ => if τ 19 0 (q + 1) < 0 then mo_N K q (u3 (u3 τ 5 0 0 (nI q)) 19 0 q (τ 19 0 q - 1)) else K (q + 1) τ
def mo_1 (τ : oS) (q : Nat) : oS := u3 (u3 τ 8 0 0 (τ 8 0 0 + 1)) 20 0 q (τ 19 0 q)
def mo_T (n r u : Nat) (G : Nat → oS → oS × Int32) (q : Nat) (τ : oS) : oS × Int32 :=
  if mo_c (mo_1 τ q) r u n (q + 1) = 0 then (if q + 1 = n then G q (u3 (mo_q (mo_1 τ q) n n) 19 0 q (τ 19 0 q - 1)) else G (q + 1) (u3 (u3 (mo_1 τ q) 5 0 0 (nI (q + 1))) 19 0 (q + 1) (τ 11 0 (q + 1))))
  else G q (u3 (mo_1 τ q) 19 0 q (τ 19 0 q - 1))
def mo_R (n r u : Nat) : Nat → Nat → oS → oS × Int32
  | 0 => mo_N (fun _ τ => (τ, 2))
  | f + 1 => mo_N (mo_T n r u (mo_R n r u f))
theorem mo_ok_of {σ τ : oS} {u : Nat} (h1 : τ 15 = σ 15) (h2 : τ 16 = σ 16) (h : mo_ok σ u) : mo_ok τ u := by
  intro k hk
  obtain ⟨a, b, c, d⟩ := h k hk
  unfold mo_A mo_B at *
  rw [h1, h2]
  exact ⟨a, b, c, d⟩
theorem mo_1_c {τ : oS} {q c : Nat} (h1 : c ≠ 8) (h2 : c ≠ 20) : mo_1 τ q c = τ c := by
  unfold mo_1
  rw [u3_c h2, u3_c h1]
def mo_J (τ : oS) (n r u q : Nat) : Prop := τ 1 0 0 = nI n ∧ τ 2 0 0 = nI r ∧ τ 3 0 0 = nI u ∧ mo_ok τ u ∧ τ 6 0 0 = 0 ∧ τ 5 0 0 = nI q
theorem mo_J_of {σ τ : oS} {n r u q q' : Nat} (h : mo_J σ n r u q) (h1 : ∀ c, c = 1 ∨ c = 2 ∨ c = 3 ∨ c = 6 ∨ c = 15 ∨ c = 16 → τ c = σ c) (h5 : τ 5 0 0 = nI q') : mo_J τ n r u q' := by
  obtain ⟨a, b, c, d, e, -⟩ := h
  exact ⟨by rw [h1 1 (by decide)]; exact a, by rw [h1 2 (by decide)]; exact b, by rw [h1 3 (by decide)]; exact c, mo_ok_of (h1 15 (by decide)) (h1 16 (by decide)) d, by rw [h1 6 (by decide)]; exact e, h5⟩
section
variable {l : Launch} {D : va_G} {cI cZ : ClassId} {ad : Nat → Nat}
variable {p : Program} {e : Env} {R : Room} {s : State} {m : MethodId} {args : Array Value} {below : List Frame} {meth : Method} {c : Code} {H : Heap} {locs : List Loc} {cells slots : Nat} {Q : State → Prop} {cc : ByteArray} {pc nL index : Nat} {ls : Array Slot} {rest : List Value} {A : Nat → Prop} {H0 : Heap} {cw : Cond} {own : String}
set_option maxHeartbeats 4000000 in
set_option maxRecDepth 100000 in
theorem c_Mo_run_e (σ : oS) {x : Int32} {f : Nat} (hf : x = nI f) (hf9 : f < 100001) (h1 : mo_in x 0 100000 = 1) (he : ¬ σ 6 0 0 = 0) : ok_MM l y_Mo_run (Cond.code y_Mo_run b_Mo_run 3 (some .int) :: tt) { frames := 1, cells := 0, slots := 0, locals := 22 } D vwCl (mt cI cZ) (mw cI cZ ad σ) (mw cI cZ ad (u3 σ 0 0 0 0)) [.ref (ad 0), .int x] (some (.int (if σ 7 0 0 = 0 then 1 else 0))) := by
  refine ok_startM (cc := b_Mo_run) (own := RMo) (maxL := 3) (ret := (some .int)) (by decide +kernel) rfl rfl (Nat.le_of_ble_eq_true rfl) ?_
  intro p e s m below meth c A F hr hlk hA hP hK hD hS ls hl
  have hl : lv_has ls 3 [(0, .ref (ad 0)), (1, .int x)] := hl
  have hx := F.1
  have hb := F.2.1
  refine lv_aload_n hx hb d_Mo_run_0 rfl (lv_at hl 0 rfl) ?_
  refine lv_iload_n hx hb d_Mo_run_1 rfl (lv_at hl 1 rfl) ?_
  refine lv_iconst (v := 0) hx hb d_Mo_run_2 (by decide) ?_
  refine lv_ldc (v := 100000) hx hb F.2.2.2.1 (F.2.2.2.2 (.constant RMo 121 (100000)) (List.mem_cons_of_mem _ (tt4 30 rfl rfl))) d_Mo_run_3 ?_
  refine x_Mo_in F (tt3 227 rfl rfl) ⟨Nat.le_of_ble_eq_true rfl, Nat.le_of_ble_eq_true rfl⟩ hK hP hl.1 (Nat.le_of_ble_eq_true rfl) ⟨Nat.zero_le _, Nat.zero_le _⟩ d_Mo_run_5 ?_
  refine lv_iconst (v := 1) hx hb d_Mo_run_8 (by decide) ?_
  refine x_Mo_goes F (tt3 230 rfl rfl) ⟨Nat.le_of_ble_eq_true rfl, Nat.le_of_ble_eq_true rfl⟩ hK hP hD hS hA hl.1 (Nat.le_of_ble_eq_true rfl) ⟨Nat.zero_le _, Nat.zero_le _⟩ d_Mo_run_9 (fun H locs hP hD hS => ?_)
  have ew : u3 σ 0 0 0 (mo_g (mo_in x 0 100000) 1) = u3 σ 0 0 0 0 := by rw [h1]; rfl
  rw [ew] at hP hD
  clear ew
  refine lv_if_ne (tgt := 17) hx hb d_Mo_run_12 (by decide) (fun c1 => ?_) (fun c1 => ?_)
  · refine lv_iload_n hx hb d_Mo_run_17 rfl (lv_at hl 1 rfl) ?_
    refine lv_istore_n (lv' := [(2, .int x), (0, .ref (ad 0)), (1, .int x)]) hx hb d_Mo_run_18 rfl hl (by decide) rfl (fun ls hl => ?_)
    refine lv_aload_n hx hb d_Mo_run_19 rfl (lv_at hl 1 rfl) ?_
    refine gf_Mo_ended F hK hP d_Mo_run_20 ?_
    refine lv_if_ne (tgt := 50) hx hb d_Mo_run_23 (by decide) (fun c2 => ?_) (fun c2 => ?_)
    · refine lv_aload_n hx hb d_Mo_run_50 rfl (lv_at hl 1 rfl) ?_
      refine gf_Mo_ended F hK hP d_Mo_run_51 ?_
      refine lv_if_ne (tgt := 240) hx hb d_Mo_run_54 (by decide) (fun c3 => ?_) (fun c3 => ?_)
      · refine lv_aload_n hx hb d_Mo_run_240 rfl (lv_at hl 1 rfl) ?_
        refine gf_Mo_found F hK hP d_Mo_run_241 ?_
        refine lv_if_eq (tgt := 251) hx hb d_Mo_run_244 (by decide) (fun c4 => ?_) (fun c4 => ?_)
        · refine lv_iconst (v := 1) hx hb d_Mo_run_251 (by decide) ?_
          exact ok_iretM F hr hlk hP hD hS (by rw [u3_c (by decide)] at c4; simp [c4]) d_Mo_run_252
        · refine lv_iconst (v := 0) hx hb d_Mo_run_247 (by decide) ?_
          refine lv_goto (tgt := 252) hx hb d_Mo_run_248 (by decide) ?_
          exact ok_iretM F hr hlk hP hD hS (by rw [u3_c (by decide)] at c4; simp [c4]) d_Mo_run_252
      · exact absurd (by rw [← c3, u3_c (by decide)]) he
    · exact absurd (by rw [← c2, u3_c (by decide)]) he
  · exact absurd c1 (by rw [h1]; decide)
theorem x_Mo_run_e {σ : oS} {x : Int32} {f : Nat} (hf : x = nI f) (hf9 : f < 100001) (h1 : mo_in x 0 100000 = 1) (he : ¬ σ 6 0 0 = 0) (F : CallFix p m c cc nL s args (cw :: tt) own) (hG : Cond.methodLink own index y_Mo_run ∈ tt) (hR : 1 + 1 ≤ R.frames ∧ 8 + (3 + 11) + 22 ≤ R.locals) (hK : va_K D vwCl (mt cI cZ) s) (hP : va_P D vwCl (mw cI cZ ad σ) H) (hD : va_D A (mw cI cZ ad σ)) (hS : va_S A H0 H locs) (hA : ∀ q, H0.size ≤ q → A q) (hsz : ls.size = nL) (hW : (rest.map fun v => v.category).sum ≤ 8) (hcs : cells ≤ R.cells ∧ slots ≤ R.slots) (hdg : decode cc pc = .ok (.invokevirtual index, 3)) (kk : ∀ (H1 : Heap) (locs1 : List Loc), va_P D vwCl (mw cI cZ ad (u3 σ 0 0 0 0)) H1 → va_D A (mw cI cZ ad (u3 σ 0 0 0 0)) → va_S A H0 H1 locs1 → W p l e R s m args below meth c H1 locs1 cells slots Q (F0 m (pc + 3) ls (.int (if σ 7 0 0 = 0 then 1 else 0) :: rest))) : W p l e R s m args below meth c H locs cells slots Q (F0 m pc ls (.int x :: .ref (ad 0) :: rest)) :=
  ok_VM (As := [.int x]) F (c_Mo_run_e σ hf hf9 h1 he) 1 (tt_V hG i_Mo_run l_Mo_run in9_Mo k_Mo_run) rfl ⟨rfl, rfl⟩ (by decide +kernel) hR hK hP hD hS hA (0) 6 rfl rfl mw_0 rfl hsz rfl hW hcs hdg kk
set_option maxHeartbeats 4000000 in
set_option maxRecDepth 100000 in
theorem c_Mo_run_0 (σ : oS) {r : Nat} {u : Nat} (h_r : σ 2 0 0 = nI r) (h_u : σ 3 0 0 = nI u) (hr4 : r ≤ 4) (hu4 : u ≤ 4) (hn : σ 1 0 0 = nI 0) (hok : mo_ok σ u) {x : Int32} {f : Nat} (hf : x = nI f) (hf9 : f < 100001) (h1 : mo_in x 0 100000 = 1) (he : σ 6 0 0 = 0) : ok_MM l y_Mo_run (Cond.code y_Mo_run b_Mo_run 3 (some .int) :: tt) { frames := 3, cells := 0, slots := 0, locals := 72 } D vwCl (mt cI cZ) (mw cI cZ ad σ) (mw cI cZ ad (u3 (if mo_c (u3 σ 0 0 0 0) r u 0 0 = 0 then mo_q (u3 σ 0 0 0 0) 0 0 else u3 σ 0 0 0 0) 6 0 0 1)) [.ref (ad 0), .int x] (some (.int (if (if mo_c (u3 σ 0 0 0 0) r u 0 0 = 0 then mo_q (u3 σ 0 0 0 0) 0 0 else u3 σ 0 0 0 0) 7 0 0 = 0 then 1 else 0))) := by
  refine ok_startM (cc := b_Mo_run) (own := RMo) (maxL := 3) (ret := (some .int)) (by decide +kernel) rfl rfl (Nat.le_of_ble_eq_true rfl) ?_
  intro p e s m below meth c A F hr hlk hA hP hK hD hS ls hl
  have hl : lv_has ls 3 [(0, .ref (ad 0)), (1, .int x)] := hl
  have hx := F.1
  have hb := F.2.1
  refine lv_aload_n hx hb d_Mo_run_0 rfl (lv_at hl 0 rfl) ?_
  refine lv_iload_n hx hb d_Mo_run_1 rfl (lv_at hl 1 rfl) ?_
  refine lv_iconst (v := 0) hx hb d_Mo_run_2 (by decide) ?_
  refine lv_ldc (v := 100000) hx hb F.2.2.2.1 (F.2.2.2.2 (.constant RMo 121 (100000)) (List.mem_cons_of_mem _ (tt4 30 rfl rfl))) d_Mo_run_3 ?_
  refine x_Mo_in F (tt3 227 rfl rfl) ⟨Nat.le_of_ble_eq_true rfl, Nat.le_of_ble_eq_true rfl⟩ hK hP hl.1 (Nat.le_of_ble_eq_true rfl) ⟨Nat.zero_le _, Nat.zero_le _⟩ d_Mo_run_5 ?_
  refine lv_iconst (v := 1) hx hb d_Mo_run_8 (by decide) ?_
  refine x_Mo_goes F (tt3 230 rfl rfl) ⟨Nat.le_of_ble_eq_true rfl, Nat.le_of_ble_eq_true rfl⟩ hK hP hD hS hA hl.1 (Nat.le_of_ble_eq_true rfl) ⟨Nat.zero_le _, Nat.zero_le _⟩ d_Mo_run_9 (fun H locs hP hD hS => ?_)
  have ew : u3 σ 0 0 0 (mo_g (mo_in x 0 100000) 1) = u3 σ 0 0 0 0 := by rw [h1]; rfl
  rw [ew] at hP hD
  clear ew
  refine lv_if_ne (tgt := 17) hx hb d_Mo_run_12 (by decide) (fun c1 => ?_) (fun c1 => ?_)
  · refine lv_iload_n hx hb d_Mo_run_17 rfl (lv_at hl 1 rfl) ?_
    refine lv_istore_n (lv' := [(2, .int x), (0, .ref (ad 0)), (1, .int x)]) hx hb d_Mo_run_18 rfl hl (by decide) rfl (fun ls hl => ?_)
    refine lv_aload_n hx hb d_Mo_run_19 rfl (lv_at hl 1 rfl) ?_
    refine gf_Mo_ended F hK hP d_Mo_run_20 ?_
    refine lv_if_ne (tgt := 50) hx hb d_Mo_run_23 (by decide) (fun c2 => ?_) (fun c2 => ?_)
    · exact absurd (by rw [u3_c (by decide)]; first | exact he | (rw [hn]; rfl)) c2
    · refine lv_aload_n hx hb d_Mo_run_26 rfl (lv_at hl 1 rfl) ?_
      refine gf_Mo_columns F hK hP d_Mo_run_27 ?_
      refine lv_if_ne (tgt := 50) hx hb d_Mo_run_30 (by decide) (fun c3 => ?_) (fun c3 => ?_)
      · exact absurd (by rw [u3_c (by decide)]; first | exact he | (rw [hn]; rfl)) c3
      · refine lv_aload_n hx hb d_Mo_run_33 rfl (lv_at hl 1 rfl) ?_
        refine lv_iconst (v := 0) hx hb d_Mo_run_34 (by decide) ?_
        refine x_Mo_isCut (r := r) (u := u) (by rw [u3_c (by decide)]; exact h_r) (by rw [u3_c (by decide)]; exact h_u) hr4 hu4 (n := 0) (by rw [u3_c (by decide)]; exact hn) (by decide) (mo_ok_of (u3_c (by decide)) (u3_c (by decide)) hok) (m0 := 0) (by decide) (by omega) (by omega) F (tt4 31 rfl rfl) ⟨Nat.le_of_ble_eq_true rfl, Nat.le_of_ble_eq_true rfl⟩ hK hP hl.1 (Nat.le_of_ble_eq_true rfl) ⟨Nat.zero_le _, Nat.zero_le _⟩ d_Mo_run_35 ?_
        refine lv_if_ne (tgt := 45) hx hb d_Mo_run_38 (by decide) (fun c4 => ?_) (fun c4 => ?_)
        · refine lv_aload_n hx hb d_Mo_run_45 rfl (lv_at hl 1 rfl) ?_
          refine lv_iconst (v := 1) hx hb d_Mo_run_46 (by decide) ?_
          refine pf_Mo_ended F hK hP hD hS (by rfl) (by rfl) d_Mo_run_47 (fun H locs hP hD hS => ?_)
          refine lv_aload_n hx hb d_Mo_run_50 rfl (lv_at hl 1 rfl) ?_
          refine gf_Mo_ended F hK hP d_Mo_run_51 ?_
          refine lv_if_ne (tgt := 240) hx hb d_Mo_run_54 (by decide) (fun c5 => ?_) (fun c5 => ?_)
          · have ew : u3 (u3 σ 0 0 0 0) 6 0 0 1 = u3 (if mo_c (u3 σ 0 0 0 0) r u 0 0 = 0 then mo_q (u3 σ 0 0 0 0) 0 0 else u3 σ 0 0 0 0) 6 0 0 1 := by rw [if_neg c4]
            rw [ew] at hP hD
            clear ew
            refine lv_aload_n hx hb d_Mo_run_240 rfl (lv_at hl 1 rfl) ?_
            refine gf_Mo_found F hK hP d_Mo_run_241 ?_
            refine lv_if_eq (tgt := 251) hx hb d_Mo_run_244 (by decide) (fun c6 => ?_) (fun c6 => ?_)
            · refine lv_iconst (v := 1) hx hb d_Mo_run_251 (by decide) ?_
              exact ok_iretM F hr hlk hP hD hS (by rw [u3_c (by decide)] at c6; simp [c6]) d_Mo_run_252
            · refine lv_iconst (v := 0) hx hb d_Mo_run_247 (by decide) ?_
              refine lv_goto (tgt := 252) hx hb d_Mo_run_248 (by decide) ?_
              exact ok_iretM F hr hlk hP hD hS (by rw [u3_c (by decide)] at c6; simp [c6]) d_Mo_run_252
          · exact absurd c5 (by rw [u3_s]; decide)
        · refine lv_aload_n hx hb d_Mo_run_41 rfl (lv_at hl 1 rfl) ?_
          refine x_Mo_keeps (n := 0) (by rw [u3_c (by decide)]; exact hn) (by decide) F (tt4 55 rfl rfl) ⟨Nat.le_of_ble_eq_true rfl, Nat.le_of_ble_eq_true rfl⟩ hK hP hD hS hA hl.1 (Nat.le_of_ble_eq_true rfl) ⟨Nat.zero_le _, Nat.zero_le _⟩ d_Mo_run_42 (fun H locs hP hD hS => ?_)
          refine lv_aload_n hx hb d_Mo_run_45 rfl (lv_at hl 1 rfl) ?_
          refine lv_iconst (v := 1) hx hb d_Mo_run_46 (by decide) ?_
          refine pf_Mo_ended F hK hP hD hS (by rfl) (by rfl) d_Mo_run_47 (fun H locs hP hD hS => ?_)
          refine lv_aload_n hx hb d_Mo_run_50 rfl (lv_at hl 1 rfl) ?_
          refine gf_Mo_ended F hK hP d_Mo_run_51 ?_
          refine lv_if_ne (tgt := 240) hx hb d_Mo_run_54 (by decide) (fun c7 => ?_) (fun c7 => ?_)
          · have ew : u3 (mo_q (u3 σ 0 0 0 0) 0 0) 6 0 0 1 = u3 (if mo_c (u3 σ 0 0 0 0) r u 0 0 = 0 then mo_q (u3 σ 0 0 0 0) 0 0 else u3 σ 0 0 0 0) 6 0 0 1 := by rw [if_pos c4]
            rw [ew] at hP hD
            clear ew
            refine lv_aload_n hx hb d_Mo_run_240 rfl (lv_at hl 1 rfl) ?_
            refine gf_Mo_found F hK hP d_Mo_run_241 ?_
            refine lv_if_eq (tgt := 251) hx hb d_Mo_run_244 (by decide) (fun c8 => ?_) (fun c8 => ?_)
            · refine lv_iconst (v := 1) hx hb d_Mo_run_251 (by decide) ?_
              exact ok_iretM F hr hlk hP hD hS (by rw [u3_c (by decide)] at c8; simp [c8]) d_Mo_run_252
            · refine lv_iconst (v := 0) hx hb d_Mo_run_247 (by decide) ?_
              refine lv_goto (tgt := 252) hx hb d_Mo_run_248 (by decide) ?_
              exact ok_iretM F hr hlk hP hD hS (by rw [u3_c (by decide)] at c8; simp [c8]) d_Mo_run_252
          · exact absurd c7 (by rw [u3_s]; decide)
  · exact absurd c1 (by rw [h1]; decide)
theorem x_Mo_run_0 {σ : oS} {r : Nat} {u : Nat} (h_r : σ 2 0 0 = nI r) (h_u : σ 3 0 0 = nI u) (hr4 : r ≤ 4) (hu4 : u ≤ 4) (hn : σ 1 0 0 = nI 0) (hok : mo_ok σ u) {x : Int32} {f : Nat} (hf : x = nI f) (hf9 : f < 100001) (h1 : mo_in x 0 100000 = 1) (he : σ 6 0 0 = 0) (F : CallFix p m c cc nL s args (cw :: tt) own) (hG : Cond.methodLink own index y_Mo_run ∈ tt) (hR : 3 + 1 ≤ R.frames ∧ 8 + (3 + 11) + 72 ≤ R.locals) (hK : va_K D vwCl (mt cI cZ) s) (hP : va_P D vwCl (mw cI cZ ad σ) H) (hD : va_D A (mw cI cZ ad σ)) (hS : va_S A H0 H locs) (hA : ∀ q, H0.size ≤ q → A q) (hsz : ls.size = nL) (hW : (rest.map fun v => v.category).sum ≤ 8) (hcs : cells ≤ R.cells ∧ slots ≤ R.slots) (hdg : decode cc pc = .ok (.invokevirtual index, 3)) (kk : ∀ (H1 : Heap) (locs1 : List Loc), va_P D vwCl (mw cI cZ ad (u3 (if mo_c (u3 σ 0 0 0 0) r u 0 0 = 0 then mo_q (u3 σ 0 0 0 0) 0 0 else u3 σ 0 0 0 0) 6 0 0 1)) H1 → va_D A (mw cI cZ ad (u3 (if mo_c (u3 σ 0 0 0 0) r u 0 0 = 0 then mo_q (u3 σ 0 0 0 0) 0 0 else u3 σ 0 0 0 0) 6 0 0 1)) → va_S A H0 H1 locs1 → W p l e R s m args below meth c H1 locs1 cells slots Q (F0 m (pc + 3) ls (.int (if (if mo_c (u3 σ 0 0 0 0) r u 0 0 = 0 then mo_q (u3 σ 0 0 0 0) 0 0 else u3 σ 0 0 0 0) 7 0 0 = 0 then 1 else 0) :: rest))) : W p l e R s m args below meth c H locs cells slots Q (F0 m pc ls (.int x :: .ref (ad 0) :: rest)) :=
  ok_VM (As := [.int x]) F (c_Mo_run_0 σ h_r h_u hr4 hu4 hn hok hf hf9 h1 he) 1 (tt_V hG i_Mo_run l_Mo_run in9_Mo k_Mo_run) rfl ⟨rfl, rfl⟩ (by decide +kernel) hR hK hP hD hS hA (0) 6 rfl rfl mw_0 rfl hsz rfl hW hcs hdg kk
set_option maxHeartbeats 4000000 in
set_option maxRecDepth 100000 in
theorem c_Mo_run_n (σ : oS) {r : Nat} {u : Nat} (h_r : σ 2 0 0 = nI r) (h_u : σ 3 0 0 = nI u) (hr4 : r ≤ 4) (hu4 : u ≤ 4) {n : Nat} (hn : σ 1 0 0 = nI n) (hn9 : n ≤ 5) (hok : mo_ok σ u) {x : Int32} {f : Nat} (hf : x = nI f) (hf9 : f < 100001) (h1 : mo_in x 0 100000 = 1) (he : σ 6 0 0 = 0) {q : Nat} (hq : σ 5 0 0 = nI q) (hqn : q < n) : ok_MM l y_Mo_run (Cond.code y_Mo_run b_Mo_run 3 (some .int) :: tt) { frames := 3, cells := 0, slots := 0, locals := 72 } D vwCl (mt cI cZ) (mw cI cZ ad σ) (mw cI cZ ad ((mo_R n r u f q (u3 σ 0 0 0 0)).1)) [.ref (ad 0), .int x] (some (.int (mo_R n r u f q (u3 σ 0 0 0 0)).2)) := by
  refine ok_startM (cc := b_Mo_run) (own := RMo) (maxL := 3) (ret := (some .int)) (by decide +kernel) rfl rfl (Nat.le_of_ble_eq_true rfl) ?_
  intro p e s m below meth c A F hr hlk hA hP hK hD hS ls hl
  have hl : lv_has ls 3 [(0, .ref (ad 0)), (1, .int x)] := hl
  have hx := F.1
  have hb := F.2.1
  have le : ∀ (τ : oS) (d : Nat), mo_R n r u f q (u3 σ 0 0 0 0) = (τ, if τ 7 0 0 = 0 then 1 else 0) → ∀ (H : Heap) (locs : List Loc), va_P D vwCl (mw cI cZ ad τ) H → va_D A (mw cI cZ ad τ) → va_S A s.heap H locs → ∀ ls : Array Slot, lv_has ls 3 [(2, .int (nI d)), (0, .ref (ad 0)), (1, .int x)] → W p l e { frames := 3, cells := 0, slots := 0, locals := 72 } s m ([.ref (ad 0), .int x] : List Value).toArray below meth c H locs 0 0 (MQ below (ok_qA D vwCl A (mw cI cZ ad ((mo_R n r u f q (u3 σ 0 0 0 0)).1)) (some (.int (mo_R n r u f q (u3 σ 0 0 0 0)).2))) ([.ref (ad 0), .int x] : List Value).toArray s 0 0 A) (F0 m 240 ls []) := by
    intro τ d heq H locs hP hD hS ls hl
    refine lv_aload_n hx hb d_Mo_run_240 rfl (lv_at hl 1 rfl) ?_
    refine gf_Mo_found F hK hP d_Mo_run_241 ?_
    refine lv_if_eq (tgt := 251) hx hb d_Mo_run_244 (by decide) (fun c1 => ?_) (fun c1 => ?_)
    · refine lv_iconst (v := 1) hx hb d_Mo_run_251 (by decide) ?_
      exact ok_iretM F hr hlk (by rw [heq]; exact hP) (by rw [heq]; exact hD) hS (by rw [heq]; simp [c1]) d_Mo_run_252
    · refine lv_iconst (v := 0) hx hb d_Mo_run_247 (by decide) ?_
      refine lv_goto (tgt := 252) hx hb d_Mo_run_248 (by decide) ?_
      exact ok_iretM F hr hlk (by rw [heq]; exact hP) (by rw [heq]; exact hD) hS (by rw [heq]; simp [c1]) d_Mo_run_252
  have lp : ∀ (d q9 : Nat) (τ : oS), d < 100001 → q9 < n → mo_J τ n r u q9 → mo_R n r u f q (u3 σ 0 0 0 0) = mo_R n r u d q9 τ → ∀ (H : Heap) (locs : List Loc), va_P D vwCl (mw cI cZ ad τ) H → va_D A (mw cI cZ ad τ) → va_S A s.heap H locs → ∀ ls : Array Slot, lv_has ls 3 [(2, .int (nI d)), (0, .ref (ad 0)), (1, .int x)] → W p l e { frames := 3, cells := 0, slots := 0, locals := 72 } s m ([.ref (ad 0), .int x] : List Value).toArray below meth c H locs 0 0 (MQ below (ok_qA D vwCl A (mw cI cZ ad ((mo_R n r u f q (u3 σ 0 0 0 0)).1)) (some (.int (mo_R n r u f q (u3 σ 0 0 0 0)).2))) ([.ref (ad 0), .int x] : List Value).toArray s 0 0 A) (F0 m 50 ls []) := by
    intro d
    induction d with
    | zero =>
      intro q9
      induction q9 with
      | zero =>
        intro τ hd hqn9 hJ heq H locs hP hD hS ls hl
        obtain ⟨i1, i2, i3, i4, i5, i6⟩ := id hJ
        rw [mo_R, mo_N] at heq
        refine lv_aload_n hx hb d_Mo_run_50 rfl (lv_at hl 1 rfl) ?_
        refine gf_Mo_ended F hK hP d_Mo_run_51 ?_
        refine lv_if_ne (tgt := 240) hx hb d_Mo_run_54 (by decide) (fun c2 => ?_) (fun c2 => ?_)
        · exact absurd i5 c2
        · refine lv_aload_n hx hb d_Mo_run_57 rfl (lv_at hl 1 rfl) ?_
          refine gf_Mo_next F hK hP d_Mo_run_58 ?_
          refine lv_aload_n hx hb d_Mo_run_61 rfl (lv_at hl 1 rfl) ?_
          refine gf_Mo_depth F hK hP d_Mo_run_62 ?_
          refine im_19 (j := 0) F hK hP i6 (by omega) d_Mo_run_65 ?_
          refine lv_if_ge (tgt := 110) hx hb d_Mo_run_66 (by decide) (fun c3 => ?_) (fun c3 => ?_)
          · rw [if_neg (Int32.not_lt.mpr c3)] at heq
            refine lv_iload_n hx hb d_Mo_run_110 rfl (lv_at hl 0 rfl) ?_
            refine lv_if_ne (tgt := 116) hx hb d_Mo_run_111 (by decide) (fun c4 => ?_) (fun c4 => ?_)
            · exact absurd rfl c4
            · refine lv_iconst (v := 2) hx hb d_Mo_run_114 (by decide) ?_
              exact ok_iretM F hr hlk (by rw [heq]; exact hP) (by rw [heq]; exact hD) hS (by rw [heq]) d_Mo_run_115
          · rw [if_pos (Int32.not_le.mp c3)] at heq
            refine lv_aload_n hx hb d_Mo_run_69 rfl (lv_at hl 1 rfl) ?_
            refine lv_dup hx hb d_Mo_run_70 rfl ?_
            refine gf_Mo_depth F hK hP d_Mo_run_71 ?_
            refine lv_iconst (v := 1) hx hb d_Mo_run_74 (by decide) ?_
            refine lv_isub hx hb d_Mo_run_75 ?_
            refine pf_Mo_depth F hK hP hD hS d_Mo_run_76 (fun H locs hP hD hS => ?_)
            have ew : u3 τ 5 0 0 ((τ 5 0 0) - 1) = u3 τ 5 0 0 (-1) := by rw [i6]; rfl
            rw [ew] at hP hD
            clear ew
            refine lv_aload_n hx hb d_Mo_run_79 rfl (lv_at hl 1 rfl) ?_
            refine gf_Mo_depth F hK hP d_Mo_run_80 ?_
            refine lv_if_ge (tgt := 94) hx hb d_Mo_run_83 (by decide) (fun c5 => ?_) (fun c5 => ?_)
            · exact absurd (by rw [u3_s] at c5; exact c5) (by decide)
            · refine lv_aload_n hx hb d_Mo_run_86 rfl (lv_at hl 1 rfl) ?_
              refine lv_iconst (v := 1) hx hb d_Mo_run_87 (by decide) ?_
              refine pf_Mo_ended F hK hP hD hS (by rfl) (by rfl) d_Mo_run_88 (fun H locs hP hD hS => ?_)
              refine lv_goto (tgt := 50) hx hb d_Mo_run_91 (by decide) ?_
              refine lv_aload_n hx hb d_Mo_run_50 rfl (lv_at hl 1 rfl) ?_
              refine gf_Mo_ended F hK hP d_Mo_run_51 ?_
              refine lv_if_ne (tgt := 240) hx hb d_Mo_run_54 (by decide) (fun _ => ?_) (fun c9 => absurd c9 (by rw [u3_s]; decide))
              exact le _ _ (by rw [heq, mo_E, u3_c (by decide), u3_c (by decide)]) _ _ hP hD hS ls (lv_sub hl [0, 1, 2] rfl)
      | succ q9 ihq =>
        intro τ hd hqn9 hJ heq H locs hP hD hS ls hl
        obtain ⟨i1, i2, i3, i4, i5, i6⟩ := id hJ
        rw [mo_R, mo_N] at heq
        refine lv_aload_n hx hb d_Mo_run_50 rfl (lv_at hl 1 rfl) ?_
        refine gf_Mo_ended F hK hP d_Mo_run_51 ?_
        refine lv_if_ne (tgt := 240) hx hb d_Mo_run_54 (by decide) (fun c6 => ?_) (fun c6 => ?_)
        · exact absurd i5 c6
        · refine lv_aload_n hx hb d_Mo_run_57 rfl (lv_at hl 1 rfl) ?_
          refine gf_Mo_next F hK hP d_Mo_run_58 ?_
          refine lv_aload_n hx hb d_Mo_run_61 rfl (lv_at hl 1 rfl) ?_
          refine gf_Mo_depth F hK hP d_Mo_run_62 ?_
          refine im_19 (j := (q9 + 1)) F hK hP i6 (by omega) d_Mo_run_65 ?_
          refine lv_if_ge (tgt := 110) hx hb d_Mo_run_66 (by decide) (fun c7 => ?_) (fun c7 => ?_)
          · rw [if_neg (Int32.not_lt.mpr c7)] at heq
            refine lv_iload_n hx hb d_Mo_run_110 rfl (lv_at hl 0 rfl) ?_
            refine lv_if_ne (tgt := 116) hx hb d_Mo_run_111 (by decide) (fun c8 => ?_) (fun c8 => ?_)
            · exact absurd rfl c8
            · refine lv_iconst (v := 2) hx hb d_Mo_run_114 (by decide) ?_
              exact ok_iretM F hr hlk (by rw [heq]; exact hP) (by rw [heq]; exact hD) hS (by rw [heq]) d_Mo_run_115
          · rw [if_pos (Int32.not_le.mp c7)] at heq
            refine lv_aload_n hx hb d_Mo_run_69 rfl (lv_at hl 1 rfl) ?_
            refine lv_dup hx hb d_Mo_run_70 rfl ?_
            refine gf_Mo_depth F hK hP d_Mo_run_71 ?_
            refine lv_iconst (v := 1) hx hb d_Mo_run_74 (by decide) ?_
            refine lv_isub hx hb d_Mo_run_75 ?_
            refine pf_Mo_depth F hK hP hD hS d_Mo_run_76 (fun H locs hP hD hS => ?_)
            have ew : u3 τ 5 0 0 ((τ 5 0 0) - 1) = u3 τ 5 0 0 (nI q9) := by rw [i6]; rw [nI_pred]
            rw [ew] at hP hD
            clear ew
            refine lv_aload_n hx hb d_Mo_run_79 rfl (lv_at hl 1 rfl) ?_
            refine gf_Mo_depth F hK hP d_Mo_run_80 ?_
            refine lv_if_ge (tgt := 94) hx hb d_Mo_run_83 (by decide) (fun c9 => ?_) (fun c9 => ?_)
            · refine lv_aload_n hx hb d_Mo_run_94 rfl (lv_at hl 1 rfl) ?_
              refine gf_Mo_next F hK hP d_Mo_run_95 ?_
              refine lv_aload_n hx hb d_Mo_run_98 rfl (lv_at hl 1 rfl) ?_
              refine gf_Mo_depth F hK hP d_Mo_run_99 ?_
              refine lv_dup2_11 hx hb d_Mo_run_102 rfl rfl ?_
              refine im_19 (j := q9) F hK hP u3_s (by omega) d_Mo_run_103 ?_
              refine lv_iconst (v := 1) hx hb d_Mo_run_104 (by decide) ?_
              refine lv_isub hx hb d_Mo_run_105 ?_
              refine sm_19 (j := q9) F hK hP hD hS u3_s (by omega) d_Mo_run_106 (fun H locs hP hD hS => ?_)
              refine lv_goto (tgt := 50) hx hb d_Mo_run_107 (by decide) ?_
              have ew : u3 (u3 τ 5 0 0 (nI q9)) 19 0 q9 (((u3 τ 5 0 0 (nI q9)) 19 0 q9) - 1) = u3 (u3 τ 5 0 0 (nI q9)) 19 0 q9 (τ 19 0 q9 - 1) := by rw [u3_c (by decide)]
              rw [ew] at hP hD
              clear ew
              exact ihq _ hd (by omega) (mo_J_of hJ (fun c hc => by rw [u3_c (by omega), u3_c (by omega)]) (by rw [u3_c (by decide), u3_s])) heq _ _ hP hD hS ls (lv_sub hl [0, 1, 2] rfl)
            · exact absurd (by rw [u3_s]; exact nI_pos' (by omega)) c9
    | succ d ih =>
      intro q9
      induction q9 with
      | zero =>
        intro τ hd hqn9 hJ heq H locs hP hD hS ls hl
        obtain ⟨i1, i2, i3, i4, i5, i6⟩ := id hJ
        rw [mo_R, mo_N] at heq
        refine lv_aload_n hx hb d_Mo_run_50 rfl (lv_at hl 1 rfl) ?_
        refine gf_Mo_ended F hK hP d_Mo_run_51 ?_
        refine lv_if_ne (tgt := 240) hx hb d_Mo_run_54 (by decide) (fun c10 => ?_) (fun c10 => ?_)
        · exact absurd i5 c10
        · refine lv_aload_n hx hb d_Mo_run_57 rfl (lv_at hl 1 rfl) ?_
          refine gf_Mo_next F hK hP d_Mo_run_58 ?_
          refine lv_aload_n hx hb d_Mo_run_61 rfl (lv_at hl 1 rfl) ?_
          refine gf_Mo_depth F hK hP d_Mo_run_62 ?_
          refine im_19 (j := 0) F hK hP i6 (by omega) d_Mo_run_65 ?_
          refine lv_if_ge (tgt := 110) hx hb d_Mo_run_66 (by decide) (fun c11 => ?_) (fun c11 => ?_)
          · rw [if_neg (Int32.not_lt.mpr c11)] at heq
            refine lv_iload_n hx hb d_Mo_run_110 rfl (lv_at hl 0 rfl) ?_
            refine lv_if_ne (tgt := 116) hx hb d_Mo_run_111 (by decide) (fun c12 => ?_) (fun c12 => ?_)
            · refine lv_iinc (v := (nI (d + 1)) + (-1)) (lv' := [(2, .int ((nI (d + 1)) + (-1))), (0, .ref (ad 0)), (1, .int x)]) hx hb d_Mo_run_116 hl (k := 0) rfl (by rw [litm1]) (by decide) rfl (fun ls hl => ?_)
              refine lv_aload_n hx hb d_Mo_run_119 rfl (lv_at hl 1 rfl) ?_
              refine lv_dup hx hb d_Mo_run_120 rfl ?_
              refine gf_Mo_steps F hK hP d_Mo_run_121 ?_
              refine lv_iconst (v := 1) hx hb d_Mo_run_124 (by decide) ?_
              refine lv_iadd hx hb d_Mo_run_125 ?_
              refine pf_Mo_steps F hK hP hD hS d_Mo_run_126 (fun H locs hP hD hS => ?_)
              refine lv_aload_n hx hb d_Mo_run_129 rfl (lv_at hl 1 rfl) ?_
              refine gf_Mo_number F hK hP d_Mo_run_130 ?_
              refine lv_aload_n hx hb d_Mo_run_133 rfl (lv_at hl 1 rfl) ?_
              refine gf_Mo_depth F hK hP d_Mo_run_134 ?_
              refine lv_aload_n hx hb d_Mo_run_137 rfl (lv_at hl 1 rfl) ?_
              refine gf_Mo_next F hK hP d_Mo_run_138 ?_
              refine lv_aload_n hx hb d_Mo_run_141 rfl (lv_at hl 1 rfl) ?_
              refine gf_Mo_depth F hK hP d_Mo_run_142 ?_
              refine im_19 (j := 0) F hK hP (by rw [u3_c (by decide)]; exact i6) (by omega) d_Mo_run_145 ?_
              refine sm_20 (j := 0) F hK hP hD hS (by rw [u3_c (by decide)]; exact i6) (by omega) d_Mo_run_146 (fun H locs hP hD hS => ?_)
              have ew : u3 (u3 τ 8 0 0 ((τ 8 0 0) + 1)) 20 0 0 ((u3 τ 8 0 0 ((τ 8 0 0) + 1)) 19 0 0) = mo_1 τ 0 := by rw [u3_c (by decide)]; rfl
              rw [ew] at hP hD
              clear ew
              refine lv_aload_n hx hb d_Mo_run_147 rfl (lv_at hl 1 rfl) ?_
              refine lv_aload_n hx hb d_Mo_run_148 rfl (lv_at hl 1 rfl) ?_
              refine gf_Mo_depth F hK hP d_Mo_run_149 ?_
              refine lv_iconst (v := 1) hx hb d_Mo_run_152 (by decide) ?_
              refine lv_iadd hx hb d_Mo_run_153 ?_
              refine x_Mo_isCut (r := r) (u := u) (by rw [mo_1_c (by decide) (by decide)]; exact i2) (by rw [mo_1_c (by decide) (by decide)]; exact i3) hr4 hu4 (n := n) (by rw [mo_1_c (by decide) (by decide)]; exact i1) hn9 (mo_ok_of (mo_1_c (by decide) (by decide)) (mo_1_c (by decide) (by decide)) i4) (m0 := (0 + 1)) (by rw [mo_1_c (by decide) (by decide), i6, nI_1]) (by omega) (by omega) F (tt4 31 rfl rfl) ⟨Nat.le_of_ble_eq_true rfl, Nat.le_of_ble_eq_true rfl⟩ hK hP hl.1 (Nat.le_of_ble_eq_true rfl) ⟨Nat.zero_le _, Nat.zero_le _⟩ d_Mo_run_154 ?_
              refine lv_if_eq (tgt := 176) hx hb d_Mo_run_157 (by decide) (fun c13 => ?_) (fun c13 => ?_)
              · have hcut := c13
                refine lv_aload_n hx hb d_Mo_run_176 rfl (lv_at hl 1 rfl) ?_
                refine gf_Mo_depth F hK hP d_Mo_run_177 ?_
                refine lv_aload_n hx hb d_Mo_run_180 rfl (lv_at hl 1 rfl) ?_
                refine gf_Mo_columns F hK hP d_Mo_run_181 ?_
                refine lv_iconst (v := 1) hx hb d_Mo_run_184 (by decide) ?_
                refine lv_isub hx hb d_Mo_run_185 ?_
                refine lv_icmp_ne (tgt := 209) hx hb d_Mo_run_186 (by decide) (fun c14 => ?_) (fun c14 => ?_)
                · have hlast : ¬ 0 + 1 = n := by
                    rw [mo_1_c (by decide) (by decide), mo_1_c (by decide) (by decide), i6, i1, nI_pm (by omega), nI_eq (by omega) (by omega)] at c14; omega
                  rw [mo_T, if_pos hcut, if_neg hlast] at heq
                  refine lv_aload_n hx hb d_Mo_run_209 rfl (lv_at hl 1 rfl) ?_
                  refine lv_dup hx hb d_Mo_run_210 rfl ?_
                  refine gf_Mo_depth F hK hP d_Mo_run_211 ?_
                  refine lv_iconst (v := 1) hx hb d_Mo_run_214 (by decide) ?_
                  refine lv_iadd hx hb d_Mo_run_215 ?_
                  refine pf_Mo_depth F hK hP hD hS d_Mo_run_216 (fun H locs hP hD hS => ?_)
                  have ew : u3 (mo_1 τ 0) 5 0 0 (((mo_1 τ 0) 5 0 0) + 1) = u3 (mo_1 τ 0) 5 0 0 (nI (0 + 1)) := by rw [mo_1_c (by decide) (by decide), i6, nI_1]
                  rw [ew] at hP hD
                  clear ew
                  refine lv_aload_n hx hb d_Mo_run_219 rfl (lv_at hl 1 rfl) ?_
                  refine gf_Mo_next F hK hP d_Mo_run_220 ?_
                  refine lv_aload_n hx hb d_Mo_run_223 rfl (lv_at hl 1 rfl) ?_
                  refine gf_Mo_depth F hK hP d_Mo_run_224 ?_
                  refine lv_aload_n hx hb d_Mo_run_227 rfl (lv_at hl 1 rfl) ?_
                  refine gf_Mo_top F hK hP d_Mo_run_228 ?_
                  refine lv_aload_n hx hb d_Mo_run_231 rfl (lv_at hl 1 rfl) ?_
                  refine gf_Mo_depth F hK hP d_Mo_run_232 ?_
                  refine im_11 (j := (0 + 1)) F hK hP u3_s (by omega) d_Mo_run_235 ?_
                  refine sm_19 (j := (0 + 1)) F hK hP hD hS u3_s (by omega) d_Mo_run_236 (fun H locs hP hD hS => ?_)
                  refine lv_goto (tgt := 50) hx hb d_Mo_run_237 (by decide) ?_
                  have ew : u3 (u3 (mo_1 τ 0) 5 0 0 (nI (0 + 1))) 19 0 (0 + 1) ((u3 (mo_1 τ 0) 5 0 0 (nI (0 + 1))) 11 0 (0 + 1)) = u3 (u3 (mo_1 τ 0) 5 0 0 (nI (0 + 1))) 19 0 (0 + 1) (τ 11 0 (0 + 1)) := by rw [u3_c (by decide), mo_1_c (by decide) (by decide)]
                  rw [ew] at hP hD
                  clear ew
                  rw [pk_m1] at hl
                  exact ih (0 + 1) _ (by omega) (by omega) (mo_J_of hJ (fun c hc => by rw [u3_c (by omega), u3_c (by omega), mo_1_c (by omega) (by omega)]) (by rw [u3_c (by decide), u3_s])) heq _ _ hP hD hS ls (lv_sub hl [0, 1, 2] rfl)
                · have hlast : 0 + 1 = n := by
                    rw [mo_1_c (by decide) (by decide), mo_1_c (by decide) (by decide), i6, i1, nI_pm (by omega), nI_eq (by omega) (by omega)] at c14; omega
                  rw [mo_T, if_pos hcut, if_pos hlast] at heq
                  refine lv_aload_n hx hb d_Mo_run_189 rfl (lv_at hl 1 rfl) ?_
                  refine x_Mo_keeps (n := n) (by rw [mo_1_c (by decide) (by decide)]; exact i1) hn9 F (tt4 55 rfl rfl) ⟨Nat.le_of_ble_eq_true rfl, Nat.le_of_ble_eq_true rfl⟩ hK hP hD hS hA hl.1 (Nat.le_of_ble_eq_true rfl) ⟨Nat.zero_le _, Nat.zero_le _⟩ d_Mo_run_190 (fun H locs hP hD hS => ?_)
                  refine lv_aload_n hx hb d_Mo_run_193 rfl (lv_at hl 1 rfl) ?_
                  refine gf_Mo_next F hK hP d_Mo_run_194 ?_
                  refine lv_aload_n hx hb d_Mo_run_197 rfl (lv_at hl 1 rfl) ?_
                  refine gf_Mo_depth F hK hP d_Mo_run_198 ?_
                  refine lv_dup2_11 hx hb d_Mo_run_201 rfl rfl ?_
                  refine im_19 (j := 0) F hK hP (by rw [mo_q_c (by decide) (by decide) (by decide), mo_1_c (by decide) (by decide)]; exact i6) (by omega) d_Mo_run_202 ?_
                  refine lv_iconst (v := 1) hx hb d_Mo_run_203 (by decide) ?_
                  refine lv_isub hx hb d_Mo_run_204 ?_
                  refine sm_19 (j := 0) F hK hP hD hS (by rw [mo_q_c (by decide) (by decide) (by decide), mo_1_c (by decide) (by decide)]; exact i6) (by omega) d_Mo_run_205 (fun H locs hP hD hS => ?_)
                  refine lv_goto (tgt := 50) hx hb d_Mo_run_206 (by decide) ?_
                  have ew : u3 (mo_q (mo_1 τ 0) n n) 19 0 0 (((mo_q (mo_1 τ 0) n n) 19 0 0) - 1) = u3 (mo_q (mo_1 τ 0) n n) 19 0 0 (τ 19 0 0 - 1) := by rw [mo_q_c (by decide) (by decide) (by decide), mo_1_c (by decide) (by decide)]
                  rw [ew] at hP hD
                  clear ew
                  rw [pk_m1] at hl
                  exact ih 0 _ (by omega) (by omega) (mo_J_of hJ (fun c hc => by rw [u3_c (by omega), mo_q_c (by omega) (by omega) (by omega), mo_1_c (by omega) (by omega)]) (by rw [u3_c (by decide), mo_q_c (by decide) (by decide) (by decide), mo_1_c (by decide) (by decide)]; exact i6)) heq _ _ hP hD hS ls (lv_sub hl [0, 1, 2] rfl)
              · rw [mo_T, if_neg c13] at heq
                refine lv_aload_n hx hb d_Mo_run_160 rfl (lv_at hl 1 rfl) ?_
                refine gf_Mo_next F hK hP d_Mo_run_161 ?_
                refine lv_aload_n hx hb d_Mo_run_164 rfl (lv_at hl 1 rfl) ?_
                refine gf_Mo_depth F hK hP d_Mo_run_165 ?_
                refine lv_dup2_11 hx hb d_Mo_run_168 rfl rfl ?_
                refine im_19 (j := 0) F hK hP (by rw [mo_1_c (by decide) (by decide)]; exact i6) (by omega) d_Mo_run_169 ?_
                refine lv_iconst (v := 1) hx hb d_Mo_run_170 (by decide) ?_
                refine lv_isub hx hb d_Mo_run_171 ?_
                refine sm_19 (j := 0) F hK hP hD hS (by rw [mo_1_c (by decide) (by decide)]; exact i6) (by omega) d_Mo_run_172 (fun H locs hP hD hS => ?_)
                refine lv_goto (tgt := 50) hx hb d_Mo_run_173 (by decide) ?_
                have ew : u3 (mo_1 τ 0) 19 0 0 (((mo_1 τ 0) 19 0 0) - 1) = u3 (mo_1 τ 0) 19 0 0 (τ 19 0 0 - 1) := by rw [mo_1_c (by decide) (by decide)]
                rw [ew] at hP hD
                clear ew
                rw [pk_m1] at hl
                exact ih 0 _ (by omega) (by omega) (mo_J_of hJ (fun c hc => by rw [u3_c (by omega), mo_1_c (by omega) (by omega)]) (by rw [u3_c (by decide), mo_1_c (by decide) (by decide)]; exact i6)) heq _ _ hP hD hS ls (lv_sub hl [0, 1, 2] rfl)
            · exact absurd c12 (nI_ne0 (by omega) (by omega))
          · rw [if_pos (Int32.not_le.mp c11)] at heq
            refine lv_aload_n hx hb d_Mo_run_69 rfl (lv_at hl 1 rfl) ?_
            refine lv_dup hx hb d_Mo_run_70 rfl ?_
            refine gf_Mo_depth F hK hP d_Mo_run_71 ?_
            refine lv_iconst (v := 1) hx hb d_Mo_run_74 (by decide) ?_
            refine lv_isub hx hb d_Mo_run_75 ?_
            refine pf_Mo_depth F hK hP hD hS d_Mo_run_76 (fun H locs hP hD hS => ?_)
            have ew : u3 τ 5 0 0 ((τ 5 0 0) - 1) = u3 τ 5 0 0 (-1) := by rw [i6]; rfl
            rw [ew] at hP hD
            clear ew
            refine lv_aload_n hx hb d_Mo_run_79 rfl (lv_at hl 1 rfl) ?_
            refine gf_Mo_depth F hK hP d_Mo_run_80 ?_
            refine lv_if_ge (tgt := 94) hx hb d_Mo_run_83 (by decide) (fun c15 => ?_) (fun c15 => ?_)
            · exact absurd (by rw [u3_s] at c15; exact c15) (by decide)
            · refine lv_aload_n hx hb d_Mo_run_86 rfl (lv_at hl 1 rfl) ?_
              refine lv_iconst (v := 1) hx hb d_Mo_run_87 (by decide) ?_
              refine pf_Mo_ended F hK hP hD hS (by rfl) (by rfl) d_Mo_run_88 (fun H locs hP hD hS => ?_)
              refine lv_goto (tgt := 50) hx hb d_Mo_run_91 (by decide) ?_
              refine lv_aload_n hx hb d_Mo_run_50 rfl (lv_at hl 1 rfl) ?_
              refine gf_Mo_ended F hK hP d_Mo_run_51 ?_
              refine lv_if_ne (tgt := 240) hx hb d_Mo_run_54 (by decide) (fun _ => ?_) (fun c9 => absurd c9 (by rw [u3_s]; decide))
              exact le _ _ (by rw [heq, mo_E, u3_c (by decide), u3_c (by decide)]) _ _ hP hD hS ls (lv_sub hl [0, 1, 2] rfl)
      | succ q9 ihq =>
        intro τ hd hqn9 hJ heq H locs hP hD hS ls hl
        obtain ⟨i1, i2, i3, i4, i5, i6⟩ := id hJ
        rw [mo_R, mo_N] at heq
        refine lv_aload_n hx hb d_Mo_run_50 rfl (lv_at hl 1 rfl) ?_
        refine gf_Mo_ended F hK hP d_Mo_run_51 ?_
        refine lv_if_ne (tgt := 240) hx hb d_Mo_run_54 (by decide) (fun c16 => ?_) (fun c16 => ?_)
        · exact absurd i5 c16
        · refine lv_aload_n hx hb d_Mo_run_57 rfl (lv_at hl 1 rfl) ?_
          refine gf_Mo_next F hK hP d_Mo_run_58 ?_
          refine lv_aload_n hx hb d_Mo_run_61 rfl (lv_at hl 1 rfl) ?_
          refine gf_Mo_depth F hK hP d_Mo_run_62 ?_
          refine im_19 (j := (q9 + 1)) F hK hP i6 (by omega) d_Mo_run_65 ?_
          refine lv_if_ge (tgt := 110) hx hb d_Mo_run_66 (by decide) (fun c17 => ?_) (fun c17 => ?_)
          · rw [if_neg (Int32.not_lt.mpr c17)] at heq
            refine lv_iload_n hx hb d_Mo_run_110 rfl (lv_at hl 0 rfl) ?_
            refine lv_if_ne (tgt := 116) hx hb d_Mo_run_111 (by decide) (fun c18 => ?_) (fun c18 => ?_)
            · refine lv_iinc (v := (nI (d + 1)) + (-1)) (lv' := [(2, .int ((nI (d + 1)) + (-1))), (0, .ref (ad 0)), (1, .int x)]) hx hb d_Mo_run_116 hl (k := 0) rfl (by rw [litm1]) (by decide) rfl (fun ls hl => ?_)
              refine lv_aload_n hx hb d_Mo_run_119 rfl (lv_at hl 1 rfl) ?_
              refine lv_dup hx hb d_Mo_run_120 rfl ?_
              refine gf_Mo_steps F hK hP d_Mo_run_121 ?_
              refine lv_iconst (v := 1) hx hb d_Mo_run_124 (by decide) ?_
              refine lv_iadd hx hb d_Mo_run_125 ?_
              refine pf_Mo_steps F hK hP hD hS d_Mo_run_126 (fun H locs hP hD hS => ?_)
              refine lv_aload_n hx hb d_Mo_run_129 rfl (lv_at hl 1 rfl) ?_
              refine gf_Mo_number F hK hP d_Mo_run_130 ?_
              refine lv_aload_n hx hb d_Mo_run_133 rfl (lv_at hl 1 rfl) ?_
              refine gf_Mo_depth F hK hP d_Mo_run_134 ?_
              refine lv_aload_n hx hb d_Mo_run_137 rfl (lv_at hl 1 rfl) ?_
              refine gf_Mo_next F hK hP d_Mo_run_138 ?_
              refine lv_aload_n hx hb d_Mo_run_141 rfl (lv_at hl 1 rfl) ?_
              refine gf_Mo_depth F hK hP d_Mo_run_142 ?_
              refine im_19 (j := (q9 + 1)) F hK hP (by rw [u3_c (by decide)]; exact i6) (by omega) d_Mo_run_145 ?_
              refine sm_20 (j := (q9 + 1)) F hK hP hD hS (by rw [u3_c (by decide)]; exact i6) (by omega) d_Mo_run_146 (fun H locs hP hD hS => ?_)
              have ew : u3 (u3 τ 8 0 0 ((τ 8 0 0) + 1)) 20 0 (q9 + 1) ((u3 τ 8 0 0 ((τ 8 0 0) + 1)) 19 0 (q9 + 1)) = mo_1 τ (q9 + 1) := by rw [u3_c (by decide)]; rfl
              rw [ew] at hP hD
              clear ew
              refine lv_aload_n hx hb d_Mo_run_147 rfl (lv_at hl 1 rfl) ?_
              refine lv_aload_n hx hb d_Mo_run_148 rfl (lv_at hl 1 rfl) ?_
              refine gf_Mo_depth F hK hP d_Mo_run_149 ?_
              refine lv_iconst (v := 1) hx hb d_Mo_run_152 (by decide) ?_
              refine lv_iadd hx hb d_Mo_run_153 ?_
              refine x_Mo_isCut (r := r) (u := u) (by rw [mo_1_c (by decide) (by decide)]; exact i2) (by rw [mo_1_c (by decide) (by decide)]; exact i3) hr4 hu4 (n := n) (by rw [mo_1_c (by decide) (by decide)]; exact i1) hn9 (mo_ok_of (mo_1_c (by decide) (by decide)) (mo_1_c (by decide) (by decide)) i4) (m0 := (q9 + 1 + 1)) (by rw [mo_1_c (by decide) (by decide), i6, nI_1]) (by omega) (by omega) F (tt4 31 rfl rfl) ⟨Nat.le_of_ble_eq_true rfl, Nat.le_of_ble_eq_true rfl⟩ hK hP hl.1 (Nat.le_of_ble_eq_true rfl) ⟨Nat.zero_le _, Nat.zero_le _⟩ d_Mo_run_154 ?_
              refine lv_if_eq (tgt := 176) hx hb d_Mo_run_157 (by decide) (fun c19 => ?_) (fun c19 => ?_)
              · have hcut := c19
                refine lv_aload_n hx hb d_Mo_run_176 rfl (lv_at hl 1 rfl) ?_
                refine gf_Mo_depth F hK hP d_Mo_run_177 ?_
                refine lv_aload_n hx hb d_Mo_run_180 rfl (lv_at hl 1 rfl) ?_
                refine gf_Mo_columns F hK hP d_Mo_run_181 ?_
                refine lv_iconst (v := 1) hx hb d_Mo_run_184 (by decide) ?_
                refine lv_isub hx hb d_Mo_run_185 ?_
                refine lv_icmp_ne (tgt := 209) hx hb d_Mo_run_186 (by decide) (fun c20 => ?_) (fun c20 => ?_)
                · have hlast : ¬ (q9 + 1) + 1 = n := by
                    rw [mo_1_c (by decide) (by decide), mo_1_c (by decide) (by decide), i6, i1, nI_pm (by omega), nI_eq (by omega) (by omega)] at c20; omega
                  rw [mo_T, if_pos hcut, if_neg hlast] at heq
                  refine lv_aload_n hx hb d_Mo_run_209 rfl (lv_at hl 1 rfl) ?_
                  refine lv_dup hx hb d_Mo_run_210 rfl ?_
                  refine gf_Mo_depth F hK hP d_Mo_run_211 ?_
                  refine lv_iconst (v := 1) hx hb d_Mo_run_214 (by decide) ?_
                  refine lv_iadd hx hb d_Mo_run_215 ?_
                  refine pf_Mo_depth F hK hP hD hS d_Mo_run_216 (fun H locs hP hD hS => ?_)
                  have ew : u3 (mo_1 τ (q9 + 1)) 5 0 0 (((mo_1 τ (q9 + 1)) 5 0 0) + 1) = u3 (mo_1 τ (q9 + 1)) 5 0 0 (nI ((q9 + 1) + 1)) := by rw [mo_1_c (by decide) (by decide), i6, nI_1]
                  rw [ew] at hP hD
                  clear ew
                  refine lv_aload_n hx hb d_Mo_run_219 rfl (lv_at hl 1 rfl) ?_
                  refine gf_Mo_next F hK hP d_Mo_run_220 ?_
                  refine lv_aload_n hx hb d_Mo_run_223 rfl (lv_at hl 1 rfl) ?_
                  refine gf_Mo_depth F hK hP d_Mo_run_224 ?_
                  refine lv_aload_n hx hb d_Mo_run_227 rfl (lv_at hl 1 rfl) ?_
                  refine gf_Mo_top F hK hP d_Mo_run_228 ?_
                  refine lv_aload_n hx hb d_Mo_run_231 rfl (lv_at hl 1 rfl) ?_
                  refine gf_Mo_depth F hK hP d_Mo_run_232 ?_
                  refine im_11 (j := ((q9 + 1) + 1)) F hK hP u3_s (by omega) d_Mo_run_235 ?_
                  refine sm_19 (j := ((q9 + 1) + 1)) F hK hP hD hS u3_s (by omega) d_Mo_run_236 (fun H locs hP hD hS => ?_)
                  refine lv_goto (tgt := 50) hx hb d_Mo_run_237 (by decide) ?_
                  have ew : u3 (u3 (mo_1 τ (q9 + 1)) 5 0 0 (nI ((q9 + 1) + 1))) 19 0 ((q9 + 1) + 1) ((u3 (mo_1 τ (q9 + 1)) 5 0 0 (nI ((q9 + 1) + 1))) 11 0 ((q9 + 1) + 1)) = u3 (u3 (mo_1 τ (q9 + 1)) 5 0 0 (nI ((q9 + 1) + 1))) 19 0 ((q9 + 1) + 1) (τ 11 0 ((q9 + 1) + 1)) := by rw [u3_c (by decide), mo_1_c (by decide) (by decide)]
                  rw [ew] at hP hD
                  clear ew
                  rw [pk_m1] at hl
                  exact ih ((q9 + 1) + 1) _ (by omega) (by omega) (mo_J_of hJ (fun c hc => by rw [u3_c (by omega), u3_c (by omega), mo_1_c (by omega) (by omega)]) (by rw [u3_c (by decide), u3_s])) heq _ _ hP hD hS ls (lv_sub hl [0, 1, 2] rfl)
                · have hlast : (q9 + 1) + 1 = n := by
                    rw [mo_1_c (by decide) (by decide), mo_1_c (by decide) (by decide), i6, i1, nI_pm (by omega), nI_eq (by omega) (by omega)] at c20; omega
                  rw [mo_T, if_pos hcut, if_pos hlast] at heq
                  refine lv_aload_n hx hb d_Mo_run_189 rfl (lv_at hl 1 rfl) ?_
                  refine x_Mo_keeps (n := n) (by rw [mo_1_c (by decide) (by decide)]; exact i1) hn9 F (tt4 55 rfl rfl) ⟨Nat.le_of_ble_eq_true rfl, Nat.le_of_ble_eq_true rfl⟩ hK hP hD hS hA hl.1 (Nat.le_of_ble_eq_true rfl) ⟨Nat.zero_le _, Nat.zero_le _⟩ d_Mo_run_190 (fun H locs hP hD hS => ?_)
                  refine lv_aload_n hx hb d_Mo_run_193 rfl (lv_at hl 1 rfl) ?_
                  refine gf_Mo_next F hK hP d_Mo_run_194 ?_
                  refine lv_aload_n hx hb d_Mo_run_197 rfl (lv_at hl 1 rfl) ?_
                  refine gf_Mo_depth F hK hP d_Mo_run_198 ?_
                  refine lv_dup2_11 hx hb d_Mo_run_201 rfl rfl ?_
                  refine im_19 (j := (q9 + 1)) F hK hP (by rw [mo_q_c (by decide) (by decide) (by decide), mo_1_c (by decide) (by decide)]; exact i6) (by omega) d_Mo_run_202 ?_
                  refine lv_iconst (v := 1) hx hb d_Mo_run_203 (by decide) ?_
                  refine lv_isub hx hb d_Mo_run_204 ?_
                  refine sm_19 (j := (q9 + 1)) F hK hP hD hS (by rw [mo_q_c (by decide) (by decide) (by decide), mo_1_c (by decide) (by decide)]; exact i6) (by omega) d_Mo_run_205 (fun H locs hP hD hS => ?_)
                  refine lv_goto (tgt := 50) hx hb d_Mo_run_206 (by decide) ?_
                  have ew : u3 (mo_q (mo_1 τ (q9 + 1)) n n) 19 0 (q9 + 1) (((mo_q (mo_1 τ (q9 + 1)) n n) 19 0 (q9 + 1)) - 1) = u3 (mo_q (mo_1 τ (q9 + 1)) n n) 19 0 (q9 + 1) (τ 19 0 (q9 + 1) - 1) := by rw [mo_q_c (by decide) (by decide) (by decide), mo_1_c (by decide) (by decide)]
                  rw [ew] at hP hD
                  clear ew
                  rw [pk_m1] at hl
                  exact ih (q9 + 1) _ (by omega) (by omega) (mo_J_of hJ (fun c hc => by rw [u3_c (by omega), mo_q_c (by omega) (by omega) (by omega), mo_1_c (by omega) (by omega)]) (by rw [u3_c (by decide), mo_q_c (by decide) (by decide) (by decide), mo_1_c (by decide) (by decide)]; exact i6)) heq _ _ hP hD hS ls (lv_sub hl [0, 1, 2] rfl)
              · rw [mo_T, if_neg c19] at heq
                refine lv_aload_n hx hb d_Mo_run_160 rfl (lv_at hl 1 rfl) ?_
                refine gf_Mo_next F hK hP d_Mo_run_161 ?_
                refine lv_aload_n hx hb d_Mo_run_164 rfl (lv_at hl 1 rfl) ?_
                refine gf_Mo_depth F hK hP d_Mo_run_165 ?_
                refine lv_dup2_11 hx hb d_Mo_run_168 rfl rfl ?_
                refine im_19 (j := (q9 + 1)) F hK hP (by rw [mo_1_c (by decide) (by decide)]; exact i6) (by omega) d_Mo_run_169 ?_
                refine lv_iconst (v := 1) hx hb d_Mo_run_170 (by decide) ?_
                refine lv_isub hx hb d_Mo_run_171 ?_
                refine sm_19 (j := (q9 + 1)) F hK hP hD hS (by rw [mo_1_c (by decide) (by decide)]; exact i6) (by omega) d_Mo_run_172 (fun H locs hP hD hS => ?_)
                refine lv_goto (tgt := 50) hx hb d_Mo_run_173 (by decide) ?_
                have ew : u3 (mo_1 τ (q9 + 1)) 19 0 (q9 + 1) (((mo_1 τ (q9 + 1)) 19 0 (q9 + 1)) - 1) = u3 (mo_1 τ (q9 + 1)) 19 0 (q9 + 1) (τ 19 0 (q9 + 1) - 1) := by rw [mo_1_c (by decide) (by decide)]
                rw [ew] at hP hD
                clear ew
                rw [pk_m1] at hl
                exact ih (q9 + 1) _ (by omega) (by omega) (mo_J_of hJ (fun c hc => by rw [u3_c (by omega), mo_1_c (by omega) (by omega)]) (by rw [u3_c (by decide), mo_1_c (by decide) (by decide)]; exact i6)) heq _ _ hP hD hS ls (lv_sub hl [0, 1, 2] rfl)
            · exact absurd c18 (nI_ne0 (by omega) (by omega))
          · rw [if_pos (Int32.not_le.mp c17)] at heq
            refine lv_aload_n hx hb d_Mo_run_69 rfl (lv_at hl 1 rfl) ?_
            refine lv_dup hx hb d_Mo_run_70 rfl ?_
            refine gf_Mo_depth F hK hP d_Mo_run_71 ?_
            refine lv_iconst (v := 1) hx hb d_Mo_run_74 (by decide) ?_
            refine lv_isub hx hb d_Mo_run_75 ?_
            refine pf_Mo_depth F hK hP hD hS d_Mo_run_76 (fun H locs hP hD hS => ?_)
            have ew : u3 τ 5 0 0 ((τ 5 0 0) - 1) = u3 τ 5 0 0 (nI q9) := by rw [i6]; rw [nI_pred]
            rw [ew] at hP hD
            clear ew
            refine lv_aload_n hx hb d_Mo_run_79 rfl (lv_at hl 1 rfl) ?_
            refine gf_Mo_depth F hK hP d_Mo_run_80 ?_
            refine lv_if_ge (tgt := 94) hx hb d_Mo_run_83 (by decide) (fun c21 => ?_) (fun c21 => ?_)
            · refine lv_aload_n hx hb d_Mo_run_94 rfl (lv_at hl 1 rfl) ?_
              refine gf_Mo_next F hK hP d_Mo_run_95 ?_
              refine lv_aload_n hx hb d_Mo_run_98 rfl (lv_at hl 1 rfl) ?_
              refine gf_Mo_depth F hK hP d_Mo_run_99 ?_
              refine lv_dup2_11 hx hb d_Mo_run_102 rfl rfl ?_
              refine im_19 (j := q9) F hK hP u3_s (by omega) d_Mo_run_103 ?_
              refine lv_iconst (v := 1) hx hb d_Mo_run_104 (by decide) ?_
              refine lv_isub hx hb d_Mo_run_105 ?_
              refine sm_19 (j := q9) F hK hP hD hS u3_s (by omega) d_Mo_run_106 (fun H locs hP hD hS => ?_)
              refine lv_goto (tgt := 50) hx hb d_Mo_run_107 (by decide) ?_
              have ew : u3 (u3 τ 5 0 0 (nI q9)) 19 0 q9 (((u3 τ 5 0 0 (nI q9)) 19 0 q9) - 1) = u3 (u3 τ 5 0 0 (nI q9)) 19 0 q9 (τ 19 0 q9 - 1) := by rw [u3_c (by decide)]
              rw [ew] at hP hD
              clear ew
              exact ihq _ hd (by omega) (mo_J_of hJ (fun c hc => by rw [u3_c (by omega), u3_c (by omega)]) (by rw [u3_c (by decide), u3_s])) heq _ _ hP hD hS ls (lv_sub hl [0, 1, 2] rfl)
            · exact absurd (by rw [u3_s]; exact nI_pos' (by omega)) c21
  refine lv_aload_n hx hb d_Mo_run_0 rfl (lv_at hl 0 rfl) ?_
  refine lv_iload_n hx hb d_Mo_run_1 rfl (lv_at hl 1 rfl) ?_
  refine lv_iconst (v := 0) hx hb d_Mo_run_2 (by decide) ?_
  refine lv_ldc (v := 100000) hx hb F.2.2.2.1 (F.2.2.2.2 (.constant RMo 121 (100000)) (List.mem_cons_of_mem _ (tt4 30 rfl rfl))) d_Mo_run_3 ?_
  refine x_Mo_in F (tt3 227 rfl rfl) ⟨Nat.le_of_ble_eq_true rfl, Nat.le_of_ble_eq_true rfl⟩ hK hP hl.1 (Nat.le_of_ble_eq_true rfl) ⟨Nat.zero_le _, Nat.zero_le _⟩ d_Mo_run_5 ?_
  refine lv_iconst (v := 1) hx hb d_Mo_run_8 (by decide) ?_
  refine x_Mo_goes F (tt3 230 rfl rfl) ⟨Nat.le_of_ble_eq_true rfl, Nat.le_of_ble_eq_true rfl⟩ hK hP hD hS hA hl.1 (Nat.le_of_ble_eq_true rfl) ⟨Nat.zero_le _, Nat.zero_le _⟩ d_Mo_run_9 (fun H locs hP hD hS => ?_)
  have ew : u3 σ 0 0 0 (mo_g (mo_in x 0 100000) 1) = u3 σ 0 0 0 0 := by rw [h1]; rfl
  rw [ew] at hP hD
  clear ew
  refine lv_if_ne (tgt := 17) hx hb d_Mo_run_12 (by decide) (fun c22 => ?_) (fun c22 => ?_)
  · refine lv_iload_n hx hb d_Mo_run_17 rfl (lv_at hl 1 rfl) ?_
    refine lv_istore_n (lv' := [(2, .int x), (0, .ref (ad 0)), (1, .int x)]) hx hb d_Mo_run_18 rfl hl (by decide) rfl (fun ls hl => ?_)
    refine lv_aload_n hx hb d_Mo_run_19 rfl (lv_at hl 1 rfl) ?_
    refine gf_Mo_ended F hK hP d_Mo_run_20 ?_
    refine lv_if_ne (tgt := 50) hx hb d_Mo_run_23 (by decide) (fun c23 => ?_) (fun c23 => ?_)
    · exact absurd (by rw [u3_c (by decide)]; exact he) c23
    · refine lv_aload_n hx hb d_Mo_run_26 rfl (lv_at hl 1 rfl) ?_
      refine gf_Mo_columns F hK hP d_Mo_run_27 ?_
      refine lv_if_ne (tgt := 50) hx hb d_Mo_run_30 (by decide) (fun c24 => ?_) (fun c24 => ?_)
      · have hl : lv_has ls 3 [(2, .int (nI f)), (0, .ref (ad 0)), (1, .int x)] := by rw [← hf]; exact (lv_sub hl [0, 1, 2] rfl)
        exact lp f q _ hf9 hqn ⟨by rw [u3_c (by decide)]; exact hn, by rw [u3_c (by decide)]; exact h_r, by rw [u3_c (by decide)]; exact h_u, mo_ok_of (u3_c (by decide)) (u3_c (by decide)) hok, by rw [u3_c (by decide)]; exact he, by rw [u3_c (by decide)]; exact hq⟩ rfl _ _ hP hD hS ls hl
      · exact absurd c24 (by rw [u3_c (by decide), hn]; exact nI_ne0 (by omega) (by omega))
  · exact absurd c22 (by rw [h1]; decide)
theorem x_Mo_run_n {σ : oS} {r : Nat} {u : Nat} (h_r : σ 2 0 0 = nI r) (h_u : σ 3 0 0 = nI u) (hr4 : r ≤ 4) (hu4 : u ≤ 4) {n : Nat} (hn : σ 1 0 0 = nI n) (hn9 : n ≤ 5) (hok : mo_ok σ u) {x : Int32} {f : Nat} (hf : x = nI f) (hf9 : f < 100001) (h1 : mo_in x 0 100000 = 1) (he : σ 6 0 0 = 0) {q : Nat} (hq : σ 5 0 0 = nI q) (hqn : q < n) (F : CallFix p m c cc nL s args (cw :: tt) own) (hG : Cond.methodLink own index y_Mo_run ∈ tt) (hR : 3 + 1 ≤ R.frames ∧ 8 + (3 + 11) + 72 ≤ R.locals) (hK : va_K D vwCl (mt cI cZ) s) (hP : va_P D vwCl (mw cI cZ ad σ) H) (hD : va_D A (mw cI cZ ad σ)) (hS : va_S A H0 H locs) (hA : ∀ q, H0.size ≤ q → A q) (hsz : ls.size = nL) (hW : (rest.map fun v => v.category).sum ≤ 8) (hcs : cells ≤ R.cells ∧ slots ≤ R.slots) (hdg : decode cc pc = .ok (.invokevirtual index, 3)) (kk : ∀ (H1 : Heap) (locs1 : List Loc), va_P D vwCl (mw cI cZ ad ((mo_R n r u f q (u3 σ 0 0 0 0)).1)) H1 → va_D A (mw cI cZ ad ((mo_R n r u f q (u3 σ 0 0 0 0)).1)) → va_S A H0 H1 locs1 → W p l e R s m args below meth c H1 locs1 cells slots Q (F0 m (pc + 3) ls (.int (mo_R n r u f q (u3 σ 0 0 0 0)).2 :: rest))) : W p l e R s m args below meth c H locs cells slots Q (F0 m pc ls (.int x :: .ref (ad 0) :: rest)) :=
  ok_VM (As := [.int x]) F (c_Mo_run_n σ h_r h_u hr4 hu4 hn hn9 hok hf hf9 h1 he hq hqn) 1 (tt_V hG i_Mo_run l_Mo_run in9_Mo k_Mo_run) rfl ⟨rfl, rfl⟩ (by decide +kernel) hR hK hP hD hS hA (0) 6 rfl rfl mw_0 rfl hsz rfl hW hcs hdg kk
end
