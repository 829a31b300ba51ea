-- the reference's calls
def mo_mt (σ : oS) (x y : Int32) (k : Nat) : Prop := (σ 15 0 k = x ∧ σ 16 0 k = y) ∨ (σ 15 0 k = y ∧ σ 16 0 k = x)
noncomputable def mo_fc (σ : oS) (x y : Int32) : Nat → Int32
  | 0 => if 4 ≤ σ 3 0 0 then 0 else 1
  | k + 1 => @ite _ (mo_mt σ x y k) (Classical.propDecidable _) 0 (mo_fc σ x y k)
theorem mo_fc_b {σ : oS} {x y : Int32} {k : Nat} : mo_fc σ x y k = 0 ∨ mo_fc σ x y k = 1 := by
  induction k with
  | zero =>
    unfold mo_fc
    split
    · exact Or.inl rfl
    · exact Or.inr rfl
  | succ k ih =>
    unfold mo_fc
    split
    · exact Or.inl rfl
    · exact ih
def mo_wv (σ : oS) (r k : Nat) (y : Int32) : Int32 := if mo_k σ r k = 0 then mo_in y 0 1000000 else mo_in y (-1000000) 0
theorem mo_in_01 {x a b : Int32} : mo_in x a b = 0 ∨ mo_in x a b = 1 := by
  unfold mo_in
  split
  · exact Or.inl rfl
  · split
    · exact Or.inl rfl
    · exact Or.inr rfl
section
variable {l : Launch} {D : va_G} {cI cZ : ClassId} {ad : Nat → Nat}
variable {p : Program} {e : Env} {R : Room} {s : State} {m : MethodId} {args : Array Value} {below : List Frame} {meth : Method} {c : Code} {H : Heap} {locs : List Loc} {cells slots : Nat} {Q : State → Prop} {cc : ByteArray} {pc nL index : Nat} {ls : Array Slot} {rest : List Value} {A : Nat → Prop} {H0 : Heap} {cw : Cond} {own : String}
set_option maxHeartbeats 4000000 in
set_option maxRecDepth 100000 in
theorem c_Mo_column (σ : oS) {n : Nat} (hn : σ 1 0 0 = nI n) (hn5 : n < 5) {x : Int32} {y : Int32} (h1 : mo_in x (-1000) 1000 = 1) (h2 : mo_in y 0 20 = 1) : ok_MM l y_Mo_column (Cond.code y_Mo_column b_Mo_column 3 (some .int) :: tt) { frames := 1, cells := 0, slots := 0, locals := 22 } D vwCl (mt cI cZ) (mw cI cZ ad σ) (mw cI cZ ad (mo_a (u3 (u3 (u3 (u3 σ 0 0 0 0) 10 0 n x) 11 0 n y) 1 0 0 (nI (n + 1))))) [.ref (ad 0), .int x, .int y] (some (.int (nI n))) := by
  refine ok_startM (cc := b_Mo_column) (own := RMo) (maxL := 3) (ret := (some .int)) (by decide +kernel) rfl rfl (Nat.le_of_ble_eq_true rfl) ?_
  intro p e s m below meth c A F hr hlk hA hP hK hD hS ls hl
  have hl : lv_has ls 3 [(0, .ref (ad 0)), (1, .int x), (2, .int y)] := hl
  have hx := F.1
  have hb := F.2.1
  refine lv_aload_n hx hb d_Mo_column_0 rfl (lv_at hl 0 rfl) ?_
  refine lv_iload_n hx hb d_Mo_column_1 rfl (lv_at hl 1 rfl) ?_
  refine lv_sipush (v := -1000) hx hb d_Mo_column_2 (by decide) ?_
  refine lv_sipush (v := 1000) hx hb d_Mo_column_5 (by decide) ?_
  refine x_Mo_in F (tt3 227 rfl rfl) ⟨Nat.le_of_ble_eq_true rfl, Nat.le_of_ble_eq_true rfl⟩ hK hP hl.1 (Nat.le_of_ble_eq_true rfl) ⟨Nat.zero_le _, Nat.zero_le _⟩ d_Mo_column_8 ?_
  refine lv_if_eq (tgt := 28) hx hb d_Mo_column_11 (by decide) (fun c1 => ?_) (fun c1 => ?_)
  · first | exact absurd c1 (by rw [h1]; decide) | exact absurd c1 (by rw [h2]; decide)
  · refine lv_iload_n hx hb d_Mo_column_14 rfl (lv_at hl 2 rfl) ?_
    refine lv_iconst (v := 0) hx hb d_Mo_column_15 (by decide) ?_
    refine lv_bipush (v := 20) hx hb d_Mo_column_16 (by decide) ?_
    refine x_Mo_in F (tt3 227 rfl rfl) ⟨Nat.le_of_ble_eq_true rfl, Nat.le_of_ble_eq_true rfl⟩ hK hP hl.1 (Nat.le_of_ble_eq_true rfl) ⟨Nat.zero_le _, Nat.zero_le _⟩ d_Mo_column_18 ?_
    refine lv_if_eq (tgt := 28) hx hb d_Mo_column_21 (by decide) (fun c2 => ?_) (fun c2 => ?_)
    · first | exact absurd c2 (by rw [h1]; decide) | exact absurd c2 (by rw [h2]; decide)
    · refine lv_iconst (v := 1) hx hb d_Mo_column_24 (by decide) ?_
      refine lv_goto (tgt := 29) hx hb d_Mo_column_25 (by decide) ?_
      refine lv_aload_n hx hb d_Mo_column_29 rfl (lv_at hl 0 rfl) ?_
      refine gf_Mo_columns F hK hP d_Mo_column_30 ?_
      refine lv_iconst (v := 5) hx hb d_Mo_column_33 (by decide) ?_
      refine lv_icmp_ge (tgt := 41) hx hb d_Mo_column_34 (by decide) (fun c3 => ?_) (fun c3 => ?_)
      · exact absurd c3 (by rw [hn, show (5 : Int32) = nI 5 from rfl, nI_leI (by omega) (by omega)]; omega)
      · refine lv_iconst (v := 1) hx hb d_Mo_column_37 (by decide) ?_
        refine lv_goto (tgt := 42) hx hb d_Mo_column_38 (by decide) ?_
        refine x_Mo_goes F (tt3 230 rfl rfl) ⟨Nat.le_of_ble_eq_true rfl, Nat.le_of_ble_eq_true rfl⟩ hK hP hD hS hA hl.1 (Nat.le_of_ble_eq_true rfl) ⟨Nat.zero_le _, Nat.zero_le _⟩ d_Mo_column_42 (fun H locs hP hD hS => ?_)
        have ew : u3 σ 0 0 0 (mo_g 1 1) = u3 σ 0 0 0 0 := by simp [mo_g]
        rw [ew] at hP hD
        clear ew
        refine lv_if_ne (tgt := 50) hx hb d_Mo_column_45 (by decide) (fun c4 => ?_) (fun c4 => ?_)
        · refine lv_aload_n hx hb d_Mo_column_50 rfl (lv_at hl 0 rfl) ?_
          refine gf_Mo_worth F hK hP d_Mo_column_51 ?_
          refine lv_aload_n hx hb d_Mo_column_54 rfl (lv_at hl 0 rfl) ?_
          refine gf_Mo_columns F hK hP d_Mo_column_55 ?_
          refine lv_iload_n hx hb d_Mo_column_58 rfl (lv_at hl 1 rfl) ?_
          refine sm_10 (j := n) F hK hP hD hS (by rw [u3_c (by decide)]; exact hn) (by omega) d_Mo_column_59 (fun H locs hP hD hS => ?_)
          refine lv_aload_n hx hb d_Mo_column_60 rfl (lv_at hl 0 rfl) ?_
          refine gf_Mo_top F hK hP d_Mo_column_61 ?_
          refine lv_aload_n hx hb d_Mo_column_64 rfl (lv_at hl 0 rfl) ?_
          refine gf_Mo_columns F hK hP d_Mo_column_65 ?_
          refine lv_iload_n hx hb d_Mo_column_68 rfl (lv_at hl 2 rfl) ?_
          refine sm_11 (j := n) F hK hP hD hS (by rw [u3_c (by decide), u3_c (by decide)]; exact hn) (by omega) d_Mo_column_69 (fun H locs hP hD hS => ?_)
          refine lv_aload_n hx hb d_Mo_column_70 rfl (lv_at hl 0 rfl) ?_
          refine lv_dup hx hb d_Mo_column_71 rfl ?_
          refine gf_Mo_columns F hK hP d_Mo_column_72 ?_
          refine lv_iconst (v := 1) hx hb d_Mo_column_75 (by decide) ?_
          refine lv_iadd hx hb d_Mo_column_76 ?_
          refine pf_Mo_columns F hK hP hD hS d_Mo_column_77 (fun H locs hP hD hS => ?_)
          have ew : u3 (u3 (u3 (u3 σ 0 0 0 0) 10 0 n x) 11 0 n y) 1 0 0 (((u3 (u3 (u3 σ 0 0 0 0) 10 0 n x) 11 0 n y) 1 0 0) + 1) = u3 (u3 (u3 (u3 σ 0 0 0 0) 10 0 n x) 11 0 n y) 1 0 0 (nI (n + 1)) := by congr 1; simp [u3_at, hn, nI_1]
          rw [ew] at hP hD
          clear ew
          refine lv_aload_n hx hb d_Mo_column_80 rfl (lv_at hl 0 rfl) ?_
          refine x_Mo_anew F (tt3 234 rfl rfl) ⟨Nat.le_of_ble_eq_true rfl, Nat.le_of_ble_eq_true rfl⟩ hK hP hD hS hA hl.1 (Nat.le_of_ble_eq_true rfl) ⟨Nat.zero_le _, Nat.zero_le _⟩ d_Mo_column_81 (fun H locs hP hD hS => ?_)
          refine lv_aload_n hx hb d_Mo_column_84 rfl (lv_at hl 0 rfl) ?_
          refine gf_Mo_columns F hK hP d_Mo_column_85 ?_
          refine lv_iconst (v := 1) hx hb d_Mo_column_88 (by decide) ?_
          refine lv_isub hx hb d_Mo_column_89 ?_
          exact ok_iretM F hr hlk hP hD hS (by simp [mo_a, u3_at]; exact nI_pred n) d_Mo_column_90
        · exact absurd c4 (by simp [mo_g])
theorem x_Mo_column {σ : oS} {n : Nat} (hn : σ 1 0 0 = nI n) (hn5 : n < 5) {x : Int32} {y : Int32} (h1 : mo_in x (-1000) 1000 = 1) (h2 : mo_in y 0 20 = 1) (F : CallFix p m c cc nL s args (cw :: tt) own) (hG : Cond.methodLink own index y_Mo_column ∈ tt) (hR : 1 + 1 ≤ R.frames ∧ 8 + (3 + 11) + 22 ≤ R.locals) (hK : va_K D vwCl (mt cI cZ) s) (hP : va_P D vwCl (mw cI cZ ad σ) H) (hD : va_D A (mw cI cZ ad σ)) (hS : va_S A H0 H locs) (hA : ∀ q, H0.size ≤ q → A q) (hsz : ls.size = nL) (hW : (rest.map fun v => v.category).sum ≤ 8) (hcs : cells ≤ R.cells ∧ slots ≤ R.slots) (hdg : decode cc pc = .ok (.invokevirtual index, 3)) (kk : ∀ (H1 : Heap) (locs1 : List Loc), va_P D vwCl (mw cI cZ ad (mo_a (u3 (u3 (u3 (u3 σ 0 0 0 0) 10 0 n x) 11 0 n y) 1 0 0 (nI (n + 1))))) H1 → va_D A (mw cI cZ ad (mo_a (u3 (u3 (u3 (u3 σ 0 0 0 0) 10 0 n x) 11 0 n y) 1 0 0 (nI (n + 1))))) → va_S A H0 H1 locs1 → W p l e R s m args below meth c H1 locs1 cells slots Q (F0 m (pc + 3) ls (.int (nI n) :: rest))) : W p l e R s m args below meth c H locs cells slots Q (F0 m pc ls (.int y :: .int x :: .ref (ad 0) :: rest)) :=
  ok_VM (As := [.int x, .int y]) F (c_Mo_column σ hn hn5 h1 h2) 2 (tt_V hG i_Mo_column l_Mo_column in9_Mo k_Mo_column) rfl ⟨rfl, rfl⟩ (by decide +kernel) hR hK hP hD hS hA (0) 6 rfl rfl mw_0 rfl hsz rfl hW hcs hdg kk
set_option maxHeartbeats 4000000 in
set_option maxRecDepth 100000 in
theorem c_Mo_column_1 (σ : oS) {x : Int32} {y : Int32} (hone : mo_in x (-1000) 1000 = 0 ∨ mo_in y 0 20 = 0) : ok_MM l y_Mo_column (Cond.code y_Mo_column b_Mo_column 3 (some .int) :: tt) { frames := 1, cells := 0, slots := 0, locals := 22 } D vwCl (mt cI cZ) (mw cI cZ ad σ) (mw cI cZ ad (u3 σ 0 0 0 1)) [.ref (ad 0), .int x, .int y] (some (.int 0)) := by
  refine ok_startM (cc := b_Mo_column) (own := RMo) (maxL := 3) (ret := (some .int)) (by decide +kernel) rfl rfl (Nat.le_of_ble_eq_true rfl) ?_
  intro p e s m below meth c A F hr hlk hA hP hK hD hS ls hl
  have hl : lv_has ls 3 [(0, .ref (ad 0)), (1, .int x), (2, .int y)] := hl
  have hx := F.1
  have hb := F.2.1
  refine lv_aload_n hx hb d_Mo_column_0 rfl (lv_at hl 0 rfl) ?_
  refine lv_iload_n hx hb d_Mo_column_1 rfl (lv_at hl 1 rfl) ?_
  refine lv_sipush (v := -1000) hx hb d_Mo_column_2 (by decide) ?_
  refine lv_sipush (v := 1000) hx hb d_Mo_column_5 (by decide) ?_
  refine x_Mo_in F (tt3 227 rfl rfl) ⟨Nat.le_of_ble_eq_true rfl, Nat.le_of_ble_eq_true rfl⟩ hK hP hl.1 (Nat.le_of_ble_eq_true rfl) ⟨Nat.zero_le _, Nat.zero_le _⟩ d_Mo_column_8 ?_
  refine lv_if_eq (tgt := 28) hx hb d_Mo_column_11 (by decide) (fun c1 => ?_) (fun c1 => ?_)
  · refine lv_iconst (v := 0) hx hb d_Mo_column_28 (by decide) ?_
    refine lv_aload_n hx hb d_Mo_column_29 rfl (lv_at hl 0 rfl) ?_
    refine gf_Mo_columns F hK hP d_Mo_column_30 ?_
    refine lv_iconst (v := 5) hx hb d_Mo_column_33 (by decide) ?_
    refine lv_icmp_ge (tgt := 41) hx hb d_Mo_column_34 (by decide) (fun c2 => ?_) (fun c2 => ?_)
    · refine lv_iconst (v := 0) hx hb d_Mo_column_41 (by decide) ?_
      refine x_Mo_goes F (tt3 230 rfl rfl) ⟨Nat.le_of_ble_eq_true rfl, Nat.le_of_ble_eq_true rfl⟩ hK hP hD hS hA hl.1 (Nat.le_of_ble_eq_true rfl) ⟨Nat.zero_le _, Nat.zero_le _⟩ d_Mo_column_42 (fun H locs hP hD hS => ?_)
      have ew : u3 σ 0 0 0 (mo_g 0 0) = u3 σ 0 0 0 1 := by simp [mo_g]
      rw [ew] at hP hD
      clear ew
      refine lv_if_ne (tgt := 50) hx hb d_Mo_column_45 (by decide) (fun c3 => ?_) (fun c3 => ?_)
      · exact absurd (by simp [mo_g]) c3
      · refine lv_iconst (v := 0) hx hb d_Mo_column_48 (by decide) ?_
        exact ok_iretM F hr hlk hP hD hS (rfl) d_Mo_column_49
    · refine lv_iconst (v := 1) hx hb d_Mo_column_37 (by decide) ?_
      refine lv_goto (tgt := 42) hx hb d_Mo_column_38 (by decide) ?_
      refine x_Mo_goes F (tt3 230 rfl rfl) ⟨Nat.le_of_ble_eq_true rfl, Nat.le_of_ble_eq_true rfl⟩ hK hP hD hS hA hl.1 (Nat.le_of_ble_eq_true rfl) ⟨Nat.zero_le _, Nat.zero_le _⟩ d_Mo_column_42 (fun H locs hP hD hS => ?_)
      have ew : u3 σ 0 0 0 (mo_g 0 1) = u3 σ 0 0 0 1 := by simp [mo_g]
      rw [ew] at hP hD
      clear ew
      refine lv_if_ne (tgt := 50) hx hb d_Mo_column_45 (by decide) (fun c4 => ?_) (fun c4 => ?_)
      · exact absurd (by simp [mo_g]) c4
      · refine lv_iconst (v := 0) hx hb d_Mo_column_48 (by decide) ?_
        exact ok_iretM F hr hlk hP hD hS (rfl) d_Mo_column_49
  · refine lv_iload_n hx hb d_Mo_column_14 rfl (lv_at hl 2 rfl) ?_
    refine lv_iconst (v := 0) hx hb d_Mo_column_15 (by decide) ?_
    refine lv_bipush (v := 20) hx hb d_Mo_column_16 (by decide) ?_
    refine x_Mo_in F (tt3 227 rfl rfl) ⟨Nat.le_of_ble_eq_true rfl, Nat.le_of_ble_eq_true rfl⟩ hK hP hl.1 (Nat.le_of_ble_eq_true rfl) ⟨Nat.zero_le _, Nat.zero_le _⟩ d_Mo_column_18 ?_
    refine lv_if_eq (tgt := 28) hx hb d_Mo_column_21 (by decide) (fun c5 => ?_) (fun c5 => ?_)
    · refine lv_iconst (v := 0) hx hb d_Mo_column_28 (by decide) ?_
      refine lv_aload_n hx hb d_Mo_column_29 rfl (lv_at hl 0 rfl) ?_
      refine gf_Mo_columns F hK hP d_Mo_column_30 ?_
      refine lv_iconst (v := 5) hx hb d_Mo_column_33 (by decide) ?_
      refine lv_icmp_ge (tgt := 41) hx hb d_Mo_column_34 (by decide) (fun c6 => ?_) (fun c6 => ?_)
      · refine lv_iconst (v := 0) hx hb d_Mo_column_41 (by decide) ?_
        refine x_Mo_goes F (tt3 230 rfl rfl) ⟨Nat.le_of_ble_eq_true rfl, Nat.le_of_ble_eq_true rfl⟩ hK hP hD hS hA hl.1 (Nat.le_of_ble_eq_true rfl) ⟨Nat.zero_le _, Nat.zero_le _⟩ d_Mo_column_42 (fun H locs hP hD hS => ?_)
        have ew : u3 σ 0 0 0 (mo_g 0 0) = u3 σ 0 0 0 1 := by simp [mo_g]
        rw [ew] at hP hD
        clear ew
        refine lv_if_ne (tgt := 50) hx hb d_Mo_column_45 (by decide) (fun c7 => ?_) (fun c7 => ?_)
        · exact absurd (by simp [mo_g]) c7
        · refine lv_iconst (v := 0) hx hb d_Mo_column_48 (by decide) ?_
          exact ok_iretM F hr hlk hP hD hS (rfl) d_Mo_column_49
      · refine lv_iconst (v := 1) hx hb d_Mo_column_37 (by decide) ?_
        refine lv_goto (tgt := 42) hx hb d_Mo_column_38 (by decide) ?_
        refine x_Mo_goes F (tt3 230 rfl rfl) ⟨Nat.le_of_ble_eq_true rfl, Nat.le_of_ble_eq_true rfl⟩ hK hP hD hS hA hl.1 (Nat.le_of_ble_eq_true rfl) ⟨Nat.zero_le _, Nat.zero_le _⟩ d_Mo_column_42 (fun H locs hP hD hS => ?_)
        have ew : u3 σ 0 0 0 (mo_g 0 1) = u3 σ 0 0 0 1 := by simp [mo_g]
        rw [ew] at hP hD
        clear ew
        refine lv_if_ne (tgt := 50) hx hb d_Mo_column_45 (by decide) (fun c8 => ?_) (fun c8 => ?_)
        · exact absurd (by simp [mo_g]) c8
        · refine lv_iconst (v := 0) hx hb d_Mo_column_48 (by decide) ?_
          exact ok_iretM F hr hlk hP hD hS (rfl) d_Mo_column_49
    · exact absurd hone (fun q => q.elim c1 c5)
theorem x_Mo_column_1 {σ : oS} {x : Int32} {y : Int32} (hone : mo_in x (-1000) 1000 = 0 ∨ mo_in y 0 20 = 0) (F : CallFix p m c cc nL s args (cw :: tt) own) (hG : Cond.methodLink own index y_Mo_column ∈ tt) (hR : 1 + 1 ≤ R.frames ∧ 8 + (3 + 11) + 22 ≤ R.locals) (hK : va_K D vwCl (mt cI cZ) s) (hP : va_P D vwCl (mw cI cZ ad σ) H) (hD : va_D A (mw cI cZ ad σ)) (hS : va_S A H0 H locs) (hA : ∀ q, H0.size ≤ q → A q) (hsz : ls.size = nL) (hW : (rest.map fun v => v.category).sum ≤ 8) (hcs : cells ≤ R.cells ∧ slots ≤ R.slots) (hdg : decode cc pc = .ok (.invokevirtual index, 3)) (kk : ∀ (H1 : Heap) (locs1 : List Loc), va_P D vwCl (mw cI cZ ad (u3 σ 0 0 0 1)) H1 → va_D A (mw cI cZ ad (u3 σ 0 0 0 1)) → va_S A H0 H1 locs1 → W p l e R s m args below meth c H1 locs1 cells slots Q (F0 m (pc + 3) ls (.int 0 :: rest))) : W p l e R s m args below meth c H locs cells slots Q (F0 m pc ls (.int y :: .int x :: .ref (ad 0) :: rest)) :=
  ok_VM (As := [.int x, .int y]) F (c_Mo_column_1 σ hone) 2 (tt_V hG i_Mo_column l_Mo_column in9_Mo k_Mo_column) rfl ⟨rfl, rfl⟩ (by decide +kernel) hR hK hP hD hS hA (0) 6 rfl rfl mw_0 rfl hsz rfl hW hcs hdg kk
set_option maxHeartbeats 4000000 in
set_option maxRecDepth 100000 in
theorem c_Mo_column_2 (σ : oS) (hn : σ 1 0 0 = nI 5) {x : Int32} {y : Int32} (h1 : mo_in x (-1000) 1000 = 1) (h2 : mo_in y 0 20 = 1) : ok_MM l y_Mo_column (Cond.code y_Mo_column b_Mo_column 3 (some .int) :: tt) { frames := 1, cells := 0, slots := 0, locals := 22 } D vwCl (mt cI cZ) (mw cI cZ ad σ) (mw cI cZ ad (u3 σ 0 0 0 2)) [.ref (ad 0), .int x, .int y] (some (.int 0)) := by
  refine ok_startM (cc := b_Mo_column) (own := RMo) (maxL := 3) (ret := (some .int)) (by decide +kernel) rfl rfl (Nat.le_of_ble_eq_true rfl) ?_
  intro p e s m below meth c A F hr hlk hA hP hK hD hS ls hl
  have hl : lv_has ls 3 [(0, .ref (ad 0)), (1, .int x), (2, .int y)] := hl
  have hx := F.1
  have hb := F.2.1
  refine lv_aload_n hx hb d_Mo_column_0 rfl (lv_at hl 0 rfl) ?_
  refine lv_iload_n hx hb d_Mo_column_1 rfl (lv_at hl 1 rfl) ?_
  refine lv_sipush (v := -1000) hx hb d_Mo_column_2 (by decide) ?_
  refine lv_sipush (v := 1000) hx hb d_Mo_column_5 (by decide) ?_
  refine x_Mo_in F (tt3 227 rfl rfl) ⟨Nat.le_of_ble_eq_true rfl, Nat.le_of_ble_eq_true rfl⟩ hK hP hl.1 (Nat.le_of_ble_eq_true rfl) ⟨Nat.zero_le _, Nat.zero_le _⟩ d_Mo_column_8 ?_
  refine lv_if_eq (tgt := 28) hx hb d_Mo_column_11 (by decide) (fun c1 => ?_) (fun c1 => ?_)
  · first | exact absurd c1 (by rw [h1]; decide) | exact absurd c1 (by rw [h2]; decide)
  · refine lv_iload_n hx hb d_Mo_column_14 rfl (lv_at hl 2 rfl) ?_
    refine lv_iconst (v := 0) hx hb d_Mo_column_15 (by decide) ?_
    refine lv_bipush (v := 20) hx hb d_Mo_column_16 (by decide) ?_
    refine x_Mo_in F (tt3 227 rfl rfl) ⟨Nat.le_of_ble_eq_true rfl, Nat.le_of_ble_eq_true rfl⟩ hK hP hl.1 (Nat.le_of_ble_eq_true rfl) ⟨Nat.zero_le _, Nat.zero_le _⟩ d_Mo_column_18 ?_
    refine lv_if_eq (tgt := 28) hx hb d_Mo_column_21 (by decide) (fun c2 => ?_) (fun c2 => ?_)
    · first | exact absurd c2 (by rw [h1]; decide) | exact absurd c2 (by rw [h2]; decide)
    · refine lv_iconst (v := 1) hx hb d_Mo_column_24 (by decide) ?_
      refine lv_goto (tgt := 29) hx hb d_Mo_column_25 (by decide) ?_
      refine lv_aload_n hx hb d_Mo_column_29 rfl (lv_at hl 0 rfl) ?_
      refine gf_Mo_columns F hK hP d_Mo_column_30 ?_
      refine lv_iconst (v := 5) hx hb d_Mo_column_33 (by decide) ?_
      refine lv_icmp_ge (tgt := 41) hx hb d_Mo_column_34 (by decide) (fun c3 => ?_) (fun c3 => ?_)
      · refine lv_iconst (v := 0) hx hb d_Mo_column_41 (by decide) ?_
        refine x_Mo_goes F (tt3 230 rfl rfl) ⟨Nat.le_of_ble_eq_true rfl, Nat.le_of_ble_eq_true rfl⟩ hK hP hD hS hA hl.1 (Nat.le_of_ble_eq_true rfl) ⟨Nat.zero_le _, Nat.zero_le _⟩ d_Mo_column_42 (fun H locs hP hD hS => ?_)
        have ew : u3 σ 0 0 0 (mo_g 1 0) = u3 σ 0 0 0 2 := by simp [mo_g]
        rw [ew] at hP hD
        clear ew
        refine lv_if_ne (tgt := 50) hx hb d_Mo_column_45 (by decide) (fun c4 => ?_) (fun c4 => ?_)
        · exact absurd (by simp [mo_g]) c4
        · refine lv_iconst (v := 0) hx hb d_Mo_column_48 (by decide) ?_
          exact ok_iretM F hr hlk hP hD hS (rfl) d_Mo_column_49
      · exact absurd (by rw [hn]; decide) c3
theorem x_Mo_column_2 {σ : oS} (hn : σ 1 0 0 = nI 5) {x : Int32} {y : Int32} (h1 : mo_in x (-1000) 1000 = 1) (h2 : mo_in y 0 20 = 1) (F : CallFix p m c cc nL s args (cw :: tt) own) (hG : Cond.methodLink own index y_Mo_column ∈ tt) (hR : 1 + 1 ≤ R.frames ∧ 8 + (3 + 11) + 22 ≤ R.locals) (hK : va_K D vwCl (mt cI cZ) s) (hP : va_P D vwCl (mw cI cZ ad σ) H) (hD : va_D A (mw cI cZ ad σ)) (hS : va_S A H0 H locs) (hA : ∀ q, H0.size ≤ q → A q) (hsz : ls.size = nL) (hW : (rest.map fun v => v.category).sum ≤ 8) (hcs : cells ≤ R.cells ∧ slots ≤ R.slots) (hdg : decode cc pc = .ok (.invokevirtual index, 3)) (kk : ∀ (H1 : Heap) (locs1 : List Loc), va_P D vwCl (mw cI cZ ad (u3 σ 0 0 0 2)) H1 → va_D A (mw cI cZ ad (u3 σ 0 0 0 2)) → va_S A H0 H1 locs1 → W p l e R s m args below meth c H1 locs1 cells slots Q (F0 m (pc + 3) ls (.int 0 :: rest))) : W p l e R s m args below meth c H locs cells slots Q (F0 m pc ls (.int y :: .int x :: .ref (ad 0) :: rest)) :=
  ok_VM (As := [.int x, .int y]) F (c_Mo_column_2 σ hn h1 h2) 2 (tt_V hG i_Mo_column l_Mo_column in9_Mo k_Mo_column) rfl ⟨rfl, rfl⟩ (by decide +kernel) hR hK hP hD hS hA (0) 6 rfl rfl mw_0 rfl hsz rfl hW hcs hdg kk
set_option maxHeartbeats 4000000 in
set_option maxRecDepth 100000 in
theorem c_Mo_row (σ : oS) {r : Nat} (h_r : σ 2 0 0 = nI r) (hr3 : r < 4) {x : Int32} {y : Int32} (h1 : mo_in x 0 1 = 1) (h2 : mo_in y (-10000) 10000 = 1) : ok_MM l y_Mo_row (Cond.code y_Mo_row b_Mo_row 3 (some .int) :: tt) { frames := 1, cells := 0, slots := 0, locals := 22 } D vwCl (mt cI cZ) (mw cI cZ ad σ) (mw cI cZ ad (mo_a (mo_z (u3 (u3 (u3 (u3 σ 0 0 0 0) 12 0 r x) 13 0 r y) 2 0 0 (nI (r + 1))) 8))) [.ref (ad 0), .int x, .int y] (some (.int (nI r))) := by
  refine ok_startM (cc := b_Mo_row) (own := RMo) (maxL := 3) (ret := (some .int)) (by decide +kernel) rfl rfl (Nat.le_of_ble_eq_true rfl) ?_
  intro p e s m below meth c A F hr hlk hA hP hK hD hS ls hl
  have hl : lv_has ls 3 [(0, .ref (ad 0)), (1, .int x), (2, .int y)] := hl
  have hx := F.1
  have hb := F.2.1
  refine lv_aload_n hx hb d_Mo_row_0 rfl (lv_at hl 0 rfl) ?_
  refine lv_iload_n hx hb d_Mo_row_1 rfl (lv_at hl 1 rfl) ?_
  refine lv_iconst (v := 0) hx hb d_Mo_row_2 (by decide) ?_
  refine lv_iconst (v := 1) hx hb d_Mo_row_3 (by decide) ?_
  refine x_Mo_in F (tt3 227 rfl rfl) ⟨Nat.le_of_ble_eq_true rfl, Nat.le_of_ble_eq_true rfl⟩ hK hP hl.1 (Nat.le_of_ble_eq_true rfl) ⟨Nat.zero_le _, Nat.zero_le _⟩ d_Mo_row_4 ?_
  refine lv_if_eq (tgt := 27) hx hb d_Mo_row_7 (by decide) (fun c1 => ?_) (fun c1 => ?_)
  · first | exact absurd c1 (by rw [h1]; decide) | exact absurd c1 (by rw [h2]; decide)
  · refine lv_iload_n hx hb d_Mo_row_10 rfl (lv_at hl 2 rfl) ?_
    refine lv_sipush (v := -10000) hx hb d_Mo_row_11 (by decide) ?_
    refine lv_sipush (v := 10000) hx hb d_Mo_row_14 (by decide) ?_
    refine x_Mo_in F (tt3 227 rfl rfl) ⟨Nat.le_of_ble_eq_true rfl, Nat.le_of_ble_eq_true rfl⟩ hK hP hl.1 (Nat.le_of_ble_eq_true rfl) ⟨Nat.zero_le _, Nat.zero_le _⟩ d_Mo_row_17 ?_
    refine lv_if_eq (tgt := 27) hx hb d_Mo_row_20 (by decide) (fun c2 => ?_) (fun c2 => ?_)
    · first | exact absurd c2 (by rw [h1]; decide) | exact absurd c2 (by rw [h2]; decide)
    · refine lv_iconst (v := 1) hx hb d_Mo_row_23 (by decide) ?_
      refine lv_goto (tgt := 28) hx hb d_Mo_row_24 (by decide) ?_
      refine lv_aload_n hx hb d_Mo_row_28 rfl (lv_at hl 0 rfl) ?_
      refine gf_Mo_rows F hK hP d_Mo_row_29 ?_
      refine lv_iconst (v := 4) hx hb d_Mo_row_32 (by decide) ?_
      refine lv_icmp_ge (tgt := 40) hx hb d_Mo_row_33 (by decide) (fun c3 => ?_) (fun c3 => ?_)
      · exact absurd c3 (by rw [h_r, show (4 : Int32) = nI 4 from rfl, nI_leI (by omega) (by omega)]; omega)
      · refine lv_iconst (v := 1) hx hb d_Mo_row_36 (by decide) ?_
        refine lv_goto (tgt := 41) hx hb d_Mo_row_37 (by decide) ?_
        refine x_Mo_goes F (tt3 230 rfl rfl) ⟨Nat.le_of_ble_eq_true rfl, Nat.le_of_ble_eq_true rfl⟩ hK hP hD hS hA hl.1 (Nat.le_of_ble_eq_true rfl) ⟨Nat.zero_le _, Nat.zero_le _⟩ d_Mo_row_41 (fun H locs hP hD hS => ?_)
        have ew : u3 σ 0 0 0 (mo_g 1 1) = u3 σ 0 0 0 0 := by simp [mo_g]
        rw [ew] at hP hD
        clear ew
        refine lv_if_ne (tgt := 49) hx hb d_Mo_row_44 (by decide) (fun c4 => ?_) (fun c4 => ?_)
        · refine lv_aload_n hx hb d_Mo_row_49 rfl (lv_at hl 0 rfl) ?_
          refine gf_Mo_kind F hK hP d_Mo_row_50 ?_
          refine lv_aload_n hx hb d_Mo_row_53 rfl (lv_at hl 0 rfl) ?_
          refine gf_Mo_rows F hK hP d_Mo_row_54 ?_
          refine lv_iload_n hx hb d_Mo_row_57 rfl (lv_at hl 1 rfl) ?_
          refine sm_12 (j := r) F hK hP hD hS (by rw [u3_c (by decide)]; exact h_r) (by omega) d_Mo_row_58 (fun H locs hP hD hS => ?_)
          refine lv_aload_n hx hb d_Mo_row_59 rfl (lv_at hl 0 rfl) ?_
          refine gf_Mo_right F hK hP d_Mo_row_60 ?_
          refine lv_aload_n hx hb d_Mo_row_63 rfl (lv_at hl 0 rfl) ?_
          refine gf_Mo_rows F hK hP d_Mo_row_64 ?_
          refine lv_iload_n hx hb d_Mo_row_67 rfl (lv_at hl 2 rfl) ?_
          refine sm_13 (j := r) F hK hP hD hS (by rw [u3_c (by decide), u3_c (by decide)]; exact h_r) (by omega) d_Mo_row_68 (fun H locs hP hD hS => ?_)
          refine lv_aload_n hx hb d_Mo_row_69 rfl (lv_at hl 0 rfl) ?_
          refine lv_dup hx hb d_Mo_row_70 rfl ?_
          refine gf_Mo_rows F hK hP d_Mo_row_71 ?_
          refine lv_iconst (v := 1) hx hb d_Mo_row_74 (by decide) ?_
          refine lv_iadd hx hb d_Mo_row_75 ?_
          refine pf_Mo_rows F hK hP hD hS d_Mo_row_76 (fun H locs hP hD hS => ?_)
          have ew : u3 (u3 (u3 (u3 σ 0 0 0 0) 12 0 r x) 13 0 r y) 2 0 0 (((u3 (u3 (u3 σ 0 0 0 0) 12 0 r x) 13 0 r y) 2 0 0) + 1) = u3 (u3 (u3 (u3 σ 0 0 0 0) 12 0 r x) 13 0 r y) 2 0 0 (nI (r + 1)) := by congr 1; simp [u3_at, h_r, nI_1]
          rw [ew] at hP hD
          clear ew
          refine lv_aload_n hx hb d_Mo_row_79 rfl (lv_at hl 0 rfl) ?_
          refine x_Mo_noMultipliers F (tt4 2 rfl rfl) ⟨Nat.le_of_ble_eq_true rfl, Nat.le_of_ble_eq_true rfl⟩ hK hP hD hS hA hl.1 (Nat.le_of_ble_eq_true rfl) ⟨Nat.zero_le _, Nat.zero_le _⟩ d_Mo_row_80 (fun H locs hP hD hS => ?_)
          refine lv_aload_n hx hb d_Mo_row_83 rfl (lv_at hl 0 rfl) ?_
          refine x_Mo_anew F (tt3 234 rfl rfl) ⟨Nat.le_of_ble_eq_true rfl, Nat.le_of_ble_eq_true rfl⟩ hK hP hD hS hA hl.1 (Nat.le_of_ble_eq_true rfl) ⟨Nat.zero_le _, Nat.zero_le _⟩ d_Mo_row_84 (fun H locs hP hD hS => ?_)
          refine lv_aload_n hx hb d_Mo_row_87 rfl (lv_at hl 0 rfl) ?_
          refine gf_Mo_rows F hK hP d_Mo_row_88 ?_
          refine lv_iconst (v := 1) hx hb d_Mo_row_91 (by decide) ?_
          refine lv_isub hx hb d_Mo_row_92 ?_
          exact ok_iretM F hr hlk hP hD hS (by simp [mo_a, u3_at, mo_z_c]; exact nI_pred r) d_Mo_row_93
        · exact absurd c4 (by simp [mo_g])
theorem x_Mo_row {σ : oS} {r : Nat} (h_r : σ 2 0 0 = nI r) (hr3 : r < 4) {x : Int32} {y : Int32} (h1 : mo_in x 0 1 = 1) (h2 : mo_in y (-10000) 10000 = 1) (F : CallFix p m c cc nL s args (cw :: tt) own) (hG : Cond.methodLink own index y_Mo_row ∈ tt) (hR : 1 + 1 ≤ R.frames ∧ 8 + (3 + 11) + 22 ≤ R.locals) (hK : va_K D vwCl (mt cI cZ) s) (hP : va_P D vwCl (mw cI cZ ad σ) H) (hD : va_D A (mw cI cZ ad σ)) (hS : va_S A H0 H locs) (hA : ∀ q, H0.size ≤ q → A q) (hsz : ls.size = nL) (hW : (rest.map fun v => v.category).sum ≤ 8) (hcs : cells ≤ R.cells ∧ slots ≤ R.slots) (hdg : decode cc pc = .ok (.invokevirtual index, 3)) (kk : ∀ (H1 : Heap) (locs1 : List Loc), va_P D vwCl (mw cI cZ ad (mo_a (mo_z (u3 (u3 (u3 (u3 σ 0 0 0 0) 12 0 r x) 13 0 r y) 2 0 0 (nI (r + 1))) 8))) H1 → va_D A (mw cI cZ ad (mo_a (mo_z (u3 (u3 (u3 (u3 σ 0 0 0 0) 12 0 r x) 13 0 r y) 2 0 0 (nI (r + 1))) 8))) → va_S A H0 H1 locs1 → W p l e R s m args below meth c H1 locs1 cells slots Q (F0 m (pc + 3) ls (.int (nI r) :: rest))) : W p l e R s m args below meth c H locs cells slots Q (F0 m pc ls (.int y :: .int x :: .ref (ad 0) :: rest)) :=
  ok_VM (As := [.int x, .int y]) F (c_Mo_row σ h_r hr3 h1 h2) 2 (tt_V hG i_Mo_row l_Mo_row in9_Mo k_Mo_row) rfl ⟨rfl, rfl⟩ (by decide +kernel) hR hK hP hD hS hA (0) 6 rfl rfl mw_0 rfl hsz rfl hW hcs hdg kk
set_option maxHeartbeats 4000000 in
set_option maxRecDepth 100000 in
theorem c_Mo_row_1 (σ : oS) {x : Int32} {y : Int32} (hone : mo_in x 0 1 = 0 ∨ mo_in y (-10000) 10000 = 0) : ok_MM l y_Mo_row (Cond.code y_Mo_row b_Mo_row 3 (some .int) :: tt) { frames := 1, cells := 0, slots := 0, locals := 22 } D vwCl (mt cI cZ) (mw cI cZ ad σ) (mw cI cZ ad (u3 σ 0 0 0 1)) [.ref (ad 0), .int x, .int y] (some (.int 0)) := by
  refine ok_startM (cc := b_Mo_row) (own := RMo) (maxL := 3) (ret := (some .int)) (by decide +kernel) rfl rfl (Nat.le_of_ble_eq_true rfl) ?_
  intro p e s m below meth c A F hr hlk hA hP hK hD hS ls hl
  have hl : lv_has ls 3 [(0, .ref (ad 0)), (1, .int x), (2, .int y)] := hl
  have hx := F.1
  have hb := F.2.1
  refine lv_aload_n hx hb d_Mo_row_0 rfl (lv_at hl 0 rfl) ?_
  refine lv_iload_n hx hb d_Mo_row_1 rfl (lv_at hl 1 rfl) ?_
  refine lv_iconst (v := 0) hx hb d_Mo_row_2 (by decide) ?_
  refine lv_iconst (v := 1) hx hb d_Mo_row_3 (by decide) ?_
  refine x_Mo_in F (tt3 227 rfl rfl) ⟨Nat.le_of_ble_eq_true rfl, Nat.le_of_ble_eq_true rfl⟩ hK hP hl.1 (Nat.le_of_ble_eq_true rfl) ⟨Nat.zero_le _, Nat.zero_le _⟩ d_Mo_row_4 ?_
  refine lv_if_eq (tgt := 27) hx hb d_Mo_row_7 (by decide) (fun c1 => ?_) (fun c1 => ?_)
  · refine lv_iconst (v := 0) hx hb d_Mo_row_27 (by decide) ?_
    refine lv_aload_n hx hb d_Mo_row_28 rfl (lv_at hl 0 rfl) ?_
    refine gf_Mo_rows F hK hP d_Mo_row_29 ?_
    refine lv_iconst (v := 4) hx hb d_Mo_row_32 (by decide) ?_
    refine lv_icmp_ge (tgt := 40) hx hb d_Mo_row_33 (by decide) (fun c2 => ?_) (fun c2 => ?_)
    · refine lv_iconst (v := 0) hx hb d_Mo_row_40 (by decide) ?_
      refine x_Mo_goes F (tt3 230 rfl rfl) ⟨Nat.le_of_ble_eq_true rfl, Nat.le_of_ble_eq_true rfl⟩ hK hP hD hS hA hl.1 (Nat.le_of_ble_eq_true rfl) ⟨Nat.zero_le _, Nat.zero_le _⟩ d_Mo_row_41 (fun H locs hP hD hS => ?_)
      have ew : u3 σ 0 0 0 (mo_g 0 0) = u3 σ 0 0 0 1 := by simp [mo_g]
      rw [ew] at hP hD
      clear ew
      refine lv_if_ne (tgt := 49) hx hb d_Mo_row_44 (by decide) (fun c3 => ?_) (fun c3 => ?_)
      · exact absurd (by simp [mo_g]) c3
      · refine lv_iconst (v := 0) hx hb d_Mo_row_47 (by decide) ?_
        exact ok_iretM F hr hlk hP hD hS (rfl) d_Mo_row_48
    · refine lv_iconst (v := 1) hx hb d_Mo_row_36 (by decide) ?_
      refine lv_goto (tgt := 41) hx hb d_Mo_row_37 (by decide) ?_
      refine x_Mo_goes F (tt3 230 rfl rfl) ⟨Nat.le_of_ble_eq_true rfl, Nat.le_of_ble_eq_true rfl⟩ hK hP hD hS hA hl.1 (Nat.le_of_ble_eq_true rfl) ⟨Nat.zero_le _, Nat.zero_le _⟩ d_Mo_row_41 (fun H locs hP hD hS => ?_)
      have ew : u3 σ 0 0 0 (mo_g 0 1) = u3 σ 0 0 0 1 := by simp [mo_g]
      rw [ew] at hP hD
      clear ew
      refine lv_if_ne (tgt := 49) hx hb d_Mo_row_44 (by decide) (fun c4 => ?_) (fun c4 => ?_)
      · exact absurd (by simp [mo_g]) c4
      · refine lv_iconst (v := 0) hx hb d_Mo_row_47 (by decide) ?_
        exact ok_iretM F hr hlk hP hD hS (rfl) d_Mo_row_48
  · refine lv_iload_n hx hb d_Mo_row_10 rfl (lv_at hl 2 rfl) ?_
    refine lv_sipush (v := -10000) hx hb d_Mo_row_11 (by decide) ?_
    refine lv_sipush (v := 10000) hx hb d_Mo_row_14 (by decide) ?_
    refine x_Mo_in F (tt3 227 rfl rfl) ⟨Nat.le_of_ble_eq_true rfl, Nat.le_of_ble_eq_true rfl⟩ hK hP hl.1 (Nat.le_of_ble_eq_true rfl) ⟨Nat.zero_le _, Nat.zero_le _⟩ d_Mo_row_17 ?_
    refine lv_if_eq (tgt := 27) hx hb d_Mo_row_20 (by decide) (fun c5 => ?_) (fun c5 => ?_)
    · refine lv_iconst (v := 0) hx hb d_Mo_row_27 (by decide) ?_
      refine lv_aload_n hx hb d_Mo_row_28 rfl (lv_at hl 0 rfl) ?_
      refine gf_Mo_rows F hK hP d_Mo_row_29 ?_
      refine lv_iconst (v := 4) hx hb d_Mo_row_32 (by decide) ?_
      refine lv_icmp_ge (tgt := 40) hx hb d_Mo_row_33 (by decide) (fun c6 => ?_) (fun c6 => ?_)
      · refine lv_iconst (v := 0) hx hb d_Mo_row_40 (by decide) ?_
        refine x_Mo_goes F (tt3 230 rfl rfl) ⟨Nat.le_of_ble_eq_true rfl, Nat.le_of_ble_eq_true rfl⟩ hK hP hD hS hA hl.1 (Nat.le_of_ble_eq_true rfl) ⟨Nat.zero_le _, Nat.zero_le _⟩ d_Mo_row_41 (fun H locs hP hD hS => ?_)
        have ew : u3 σ 0 0 0 (mo_g 0 0) = u3 σ 0 0 0 1 := by simp [mo_g]
        rw [ew] at hP hD
        clear ew
        refine lv_if_ne (tgt := 49) hx hb d_Mo_row_44 (by decide) (fun c7 => ?_) (fun c7 => ?_)
        · exact absurd (by simp [mo_g]) c7
        · refine lv_iconst (v := 0) hx hb d_Mo_row_47 (by decide) ?_
          exact ok_iretM F hr hlk hP hD hS (rfl) d_Mo_row_48
      · refine lv_iconst (v := 1) hx hb d_Mo_row_36 (by decide) ?_
        refine lv_goto (tgt := 41) hx hb d_Mo_row_37 (by decide) ?_
        refine x_Mo_goes F (tt3 230 rfl rfl) ⟨Nat.le_of_ble_eq_true rfl, Nat.le_of_ble_eq_true rfl⟩ hK hP hD hS hA hl.1 (Nat.le_of_ble_eq_true rfl) ⟨Nat.zero_le _, Nat.zero_le _⟩ d_Mo_row_41 (fun H locs hP hD hS => ?_)
        have ew : u3 σ 0 0 0 (mo_g 0 1) = u3 σ 0 0 0 1 := by simp [mo_g]
        rw [ew] at hP hD
        clear ew
        refine lv_if_ne (tgt := 49) hx hb d_Mo_row_44 (by decide) (fun c8 => ?_) (fun c8 => ?_)
        · exact absurd (by simp [mo_g]) c8
        · refine lv_iconst (v := 0) hx hb d_Mo_row_47 (by decide) ?_
          exact ok_iretM F hr hlk hP hD hS (rfl) d_Mo_row_48
    · exact absurd hone (fun q => q.elim c1 c5)
theorem x_Mo_row_1 {σ : oS} {x : Int32} {y : Int32} (hone : mo_in x 0 1 = 0 ∨ mo_in y (-10000) 10000 = 0) (F : CallFix p m c cc nL s args (cw :: tt) own) (hG : Cond.methodLink own index y_Mo_row ∈ tt) (hR : 1 + 1 ≤ R.frames ∧ 8 + (3 + 11) + 22 ≤ R.locals) (hK : va_K D vwCl (mt cI cZ) s) (hP : va_P D vwCl (mw cI cZ ad σ) H) (hD : va_D A (mw cI cZ ad σ)) (hS : va_S A H0 H locs) (hA : ∀ q, H0.size ≤ q → A q) (hsz : ls.size = nL) (hW : (rest.map fun v => v.category).sum ≤ 8) (hcs : cells ≤ R.cells ∧ slots ≤ R.slots) (hdg : decode cc pc = .ok (.invokevirtual index, 3)) (kk : ∀ (H1 : Heap) (locs1 : List Loc), va_P D vwCl (mw cI cZ ad (u3 σ 0 0 0 1)) H1 → va_D A (mw cI cZ ad (u3 σ 0 0 0 1)) → va_S A H0 H1 locs1 → W p l e R s m args below meth c H1 locs1 cells slots Q (F0 m (pc + 3) ls (.int 0 :: rest))) : W p l e R s m args below meth c H locs cells slots Q (F0 m pc ls (.int y :: .int x :: .ref (ad 0) :: rest)) :=
  ok_VM (As := [.int x, .int y]) F (c_Mo_row_1 σ hone) 2 (tt_V hG i_Mo_row l_Mo_row in9_Mo k_Mo_row) rfl ⟨rfl, rfl⟩ (by decide +kernel) hR hK hP hD hS hA (0) 6 rfl rfl mw_0 rfl hsz rfl hW hcs hdg kk
set_option maxHeartbeats 4000000 in
set_option maxRecDepth 100000 in
theorem c_Mo_row_2 (σ : oS) (h_r : σ 2 0 0 = nI 4) {x : Int32} {y : Int32} (h1 : mo_in x 0 1 = 1) (h2 : mo_in y (-10000) 10000 = 1) : ok_MM l y_Mo_row (Cond.code y_Mo_row b_Mo_row 3 (some .int) :: tt) { frames := 1, cells := 0, slots := 0, locals := 22 } D vwCl (mt cI cZ) (mw cI cZ ad σ) (mw cI cZ ad (u3 σ 0 0 0 2)) [.ref (ad 0), .int x, .int y] (some (.int 0)) := by
  refine ok_startM (cc := b_Mo_row) (own := RMo) (maxL := 3) (ret := (some .int)) (by decide +kernel) rfl rfl (Nat.le_of_ble_eq_true rfl) ?_
  intro p e s m below meth c A F hr hlk hA hP hK hD hS ls hl
  have hl : lv_has ls 3 [(0, .ref (ad 0)), (1, .int x), (2, .int y)] := hl
  have hx := F.1
  have hb := F.2.1
  refine lv_aload_n hx hb d_Mo_row_0 rfl (lv_at hl 0 rfl) ?_
  refine lv_iload_n hx hb d_Mo_row_1 rfl (lv_at hl 1 rfl) ?_
  refine lv_iconst (v := 0) hx hb d_Mo_row_2 (by decide) ?_
  refine lv_iconst (v := 1) hx hb d_Mo_row_3 (by decide) ?_
  refine x_Mo_in F (tt3 227 rfl rfl) ⟨Nat.le_of_ble_eq_true rfl, Nat.le_of_ble_eq_true rfl⟩ hK hP hl.1 (Nat.le_of_ble_eq_true rfl) ⟨Nat.zero_le _, Nat.zero_le _⟩ d_Mo_row_4 ?_
  refine lv_if_eq (tgt := 27) hx hb d_Mo_row_7 (by decide) (fun c1 => ?_) (fun c1 => ?_)
  · first | exact absurd c1 (by rw [h1]; decide) | exact absurd c1 (by rw [h2]; decide)
  · refine lv_iload_n hx hb d_Mo_row_10 rfl (lv_at hl 2 rfl) ?_
    refine lv_sipush (v := -10000) hx hb d_Mo_row_11 (by decide) ?_
    refine lv_sipush (v := 10000) hx hb d_Mo_row_14 (by decide) ?_
    refine x_Mo_in F (tt3 227 rfl rfl) ⟨Nat.le_of_ble_eq_true rfl, Nat.le_of_ble_eq_true rfl⟩ hK hP hl.1 (Nat.le_of_ble_eq_true rfl) ⟨Nat.zero_le _, Nat.zero_le _⟩ d_Mo_row_17 ?_
    refine lv_if_eq (tgt := 27) hx hb d_Mo_row_20 (by decide) (fun c2 => ?_) (fun c2 => ?_)
    · first | exact absurd c2 (by rw [h1]; decide) | exact absurd c2 (by rw [h2]; decide)
    · refine lv_iconst (v := 1) hx hb d_Mo_row_23 (by decide) ?_
      refine lv_goto (tgt := 28) hx hb d_Mo_row_24 (by decide) ?_
      refine lv_aload_n hx hb d_Mo_row_28 rfl (lv_at hl 0 rfl) ?_
      refine gf_Mo_rows F hK hP d_Mo_row_29 ?_
      refine lv_iconst (v := 4) hx hb d_Mo_row_32 (by decide) ?_
      refine lv_icmp_ge (tgt := 40) hx hb d_Mo_row_33 (by decide) (fun c3 => ?_) (fun c3 => ?_)
      · refine lv_iconst (v := 0) hx hb d_Mo_row_40 (by decide) ?_
        refine x_Mo_goes F (tt3 230 rfl rfl) ⟨Nat.le_of_ble_eq_true rfl, Nat.le_of_ble_eq_true rfl⟩ hK hP hD hS hA hl.1 (Nat.le_of_ble_eq_true rfl) ⟨Nat.zero_le _, Nat.zero_le _⟩ d_Mo_row_41 (fun H locs hP hD hS => ?_)
        have ew : u3 σ 0 0 0 (mo_g 1 0) = u3 σ 0 0 0 2 := by simp [mo_g]
        rw [ew] at hP hD
        clear ew
        refine lv_if_ne (tgt := 49) hx hb d_Mo_row_44 (by decide) (fun c4 => ?_) (fun c4 => ?_)
        · exact absurd (by simp [mo_g]) c4
        · refine lv_iconst (v := 0) hx hb d_Mo_row_47 (by decide) ?_
          exact ok_iretM F hr hlk hP hD hS (rfl) d_Mo_row_48
      · exact absurd (by rw [h_r]; decide) c3
theorem x_Mo_row_2 {σ : oS} (h_r : σ 2 0 0 = nI 4) {x : Int32} {y : Int32} (h1 : mo_in x 0 1 = 1) (h2 : mo_in y (-10000) 10000 = 1) (F : CallFix p m c cc nL s args (cw :: tt) own) (hG : Cond.methodLink own index y_Mo_row ∈ tt) (hR : 1 + 1 ≤ R.frames ∧ 8 + (3 + 11) + 22 ≤ R.locals) (hK : va_K D vwCl (mt cI cZ) s) (hP : va_P D vwCl (mw cI cZ ad σ) H) (hD : va_D A (mw cI cZ ad σ)) (hS : va_S A H0 H locs) (hA : ∀ q, H0.size ≤ q → A q) (hsz : ls.size = nL) (hW : (rest.map fun v => v.category).sum ≤ 8) (hcs : cells ≤ R.cells ∧ slots ≤ R.slots) (hdg : decode cc pc = .ok (.invokevirtual index, 3)) (kk : ∀ (H1 : Heap) (locs1 : List Loc), va_P D vwCl (mw cI cZ ad (u3 σ 0 0 0 2)) H1 → va_D A (mw cI cZ ad (u3 σ 0 0 0 2)) → va_S A H0 H1 locs1 → W p l e R s m args below meth c H1 locs1 cells slots Q (F0 m (pc + 3) ls (.int 0 :: rest))) : W p l e R s m args below meth c H locs cells slots Q (F0 m pc ls (.int y :: .int x :: .ref (ad 0) :: rest)) :=
  ok_VM (As := [.int x, .int y]) F (c_Mo_row_2 σ h_r h1 h2) 2 (tt_V hG i_Mo_row l_Mo_row in9_Mo k_Mo_row) rfl ⟨rfl, rfl⟩ (by decide +kernel) hR hK hP hD hS hA (0) 6 rfl rfl mw_0 rfl hsz rfl hW hcs hdg kk
set_option maxHeartbeats 4000000 in
set_option maxRecDepth 100000 in
theorem c_Mo_factor (σ : oS) {x : Int32} {k : Nat} (hk : x = nI k) (hk9 : k < 4) {y : Int32} {j : Nat} (hj : y = nI j) (hj9 : j < 5) {v : Int32} (h1 : mo_in x 0 (σ 2 0 0 - 1) = 1) (h2 : mo_in y 0 (σ 1 0 0 - 1) = 1) (h3 : mo_in v (-10) 10 = 1) : ok_MM l y_Mo_factor (Cond.code y_Mo_factor b_Mo_factor 4 none :: tt) { frames := 2, cells := 0, slots := 0, locals := 43 } D vwCl (mt cI cZ) (mw cI cZ ad σ) (mw cI cZ ad (mo_a (u3 (u3 σ 0 0 0 0) 14 0 (5 * k + j) v))) [.ref (ad 0), .int x, .int y, .int v] none := by
  refine ok_startM (cc := b_Mo_factor) (own := RMo) (maxL := 4) (ret := none) (by decide +kernel) rfl rfl (Nat.le_of_ble_eq_true rfl) ?_
  intro p e s m below meth c A F hr hlk hA hP hK hD hS ls hl
  have hl : lv_has ls 4 [(0, .ref (ad 0)), (1, .int x), (2, .int y), (3, .int v)] := hl
  have hx := F.1
  have hb := F.2.1
  refine lv_aload_n hx hb d_Mo_factor_0 rfl (lv_at hl 0 rfl) ?_
  refine lv_aload_n hx hb d_Mo_factor_1 rfl (lv_at hl 0 rfl) ?_
  refine lv_iload_n hx hb d_Mo_factor_2 rfl (lv_at hl 1 rfl) ?_
  refine x_Mo_isRow F (tt4 10 rfl rfl) ⟨Nat.le_of_ble_eq_true rfl, Nat.le_of_ble_eq_true rfl⟩ hK hP hl.1 (Nat.le_of_ble_eq_true rfl) ⟨Nat.zero_le _, Nat.zero_le _⟩ d_Mo_factor_3 ?_
  refine lv_if_eq (tgt := 21) hx hb d_Mo_factor_6 (by decide) (fun c1 => ?_) (fun c1 => ?_)
  · first | exact absurd c1 (by rw [h1]; decide) | exact absurd c1 (by rw [h2]; decide)
  · refine lv_aload_n hx hb d_Mo_factor_9 rfl (lv_at hl 0 rfl) ?_
    refine lv_iload_n hx hb d_Mo_factor_10 rfl (lv_at hl 2 rfl) ?_
    refine x_Mo_isColumn F (tt4 14 rfl rfl) ⟨Nat.le_of_ble_eq_true rfl, Nat.le_of_ble_eq_true rfl⟩ hK hP hl.1 (Nat.le_of_ble_eq_true rfl) ⟨Nat.zero_le _, Nat.zero_le _⟩ d_Mo_factor_11 ?_
    refine lv_if_eq (tgt := 21) hx hb d_Mo_factor_14 (by decide) (fun c2 => ?_) (fun c2 => ?_)
    · first | exact absurd c2 (by rw [h1]; decide) | exact absurd c2 (by rw [h2]; decide)
    · refine lv_iconst (v := 1) hx hb d_Mo_factor_17 (by decide) ?_
      refine lv_goto (tgt := 22) hx hb d_Mo_factor_18 (by decide) ?_
      refine lv_iload_n hx hb d_Mo_factor_22 rfl (lv_at hl 3 rfl) ?_
      refine lv_bipush (v := -10) hx hb d_Mo_factor_23 (by decide) ?_
      refine lv_bipush (v := 10) hx hb d_Mo_factor_25 (by decide) ?_
      refine x_Mo_in F (tt3 227 rfl rfl) ⟨Nat.le_of_ble_eq_true rfl, Nat.le_of_ble_eq_true rfl⟩ hK hP hl.1 (Nat.le_of_ble_eq_true rfl) ⟨Nat.zero_le _, Nat.zero_le _⟩ d_Mo_factor_27 ?_
      refine x_Mo_goes F (tt3 230 rfl rfl) ⟨Nat.le_of_ble_eq_true rfl, Nat.le_of_ble_eq_true rfl⟩ hK hP hD hS hA hl.1 (Nat.le_of_ble_eq_true rfl) ⟨Nat.zero_le _, Nat.zero_le _⟩ d_Mo_factor_30 (fun H locs hP hD hS => ?_)
      have ew : u3 σ 0 0 0 (mo_g 1 (mo_in v (-10) 10)) = u3 σ 0 0 0 0 := by rw [h3]; simp [mo_g]
      rw [ew] at hP hD
      clear ew
      refine lv_if_ne (tgt := 37) hx hb d_Mo_factor_33 (by decide) (fun c3 => ?_) (fun c3 => ?_)
      · refine lv_aload_n hx hb d_Mo_factor_37 rfl (lv_at hl 0 rfl) ?_
        refine gf_Mo_factor F hK hP d_Mo_factor_38 ?_
        refine lv_iconst (v := 5) hx hb d_Mo_factor_41 (by decide) ?_
        refine lv_iload_n hx hb d_Mo_factor_42 rfl (lv_at hl 1 rfl) ?_
        refine lv_imul hx hb d_Mo_factor_43 ?_
        refine lv_iload_n hx hb d_Mo_factor_44 rfl (lv_at hl 2 rfl) ?_
        refine lv_iadd hx hb d_Mo_factor_45 ?_
        refine lv_iload_n hx hb d_Mo_factor_46 rfl (lv_at hl 3 rfl) ?_
        refine sm_14 (j := (5 * k + j)) F hK hP hD hS (by rw [hk, hj]; exact mo_ix) (by omega) d_Mo_factor_47 (fun H locs hP hD hS => ?_)
        refine lv_aload_n hx hb d_Mo_factor_48 rfl (lv_at hl 0 rfl) ?_
        refine x_Mo_anew F (tt3 234 rfl rfl) ⟨Nat.le_of_ble_eq_true rfl, Nat.le_of_ble_eq_true rfl⟩ hK hP hD hS hA hl.1 (Nat.le_of_ble_eq_true rfl) ⟨Nat.zero_le _, Nat.zero_le _⟩ d_Mo_factor_49 (fun H locs hP hD hS => ?_)
        exact ok_vretM F hr hlk hP hD hS d_Mo_factor_52
      · exact absurd c3 (by rw [h3]; simp [mo_g])
theorem x_Mo_factor {σ : oS} {x : Int32} {k : Nat} (hk : x = nI k) (hk9 : k < 4) {y : Int32} {j : Nat} (hj : y = nI j) (hj9 : j < 5) {v : Int32} (h1 : mo_in x 0 (σ 2 0 0 - 1) = 1) (h2 : mo_in y 0 (σ 1 0 0 - 1) = 1) (h3 : mo_in v (-10) 10 = 1) (F : CallFix p m c cc nL s args (cw :: tt) own) (hG : Cond.methodLink own index y_Mo_factor ∈ tt) (hR : 2 + 1 ≤ R.frames ∧ 8 + (4 + 11) + 43 ≤ R.locals) (hK : va_K D vwCl (mt cI cZ) s) (hP : va_P D vwCl (mw cI cZ ad σ) H) (hD : va_D A (mw cI cZ ad σ)) (hS : va_S A H0 H locs) (hA : ∀ q, H0.size ≤ q → A q) (hsz : ls.size = nL) (hW : (rest.map fun v => v.category).sum ≤ 8) (hcs : cells ≤ R.cells ∧ slots ≤ R.slots) (hdg : decode cc pc = .ok (.invokevirtual index, 3)) (kk : ∀ (H1 : Heap) (locs1 : List Loc), va_P D vwCl (mw cI cZ ad (mo_a (u3 (u3 σ 0 0 0 0) 14 0 (5 * k + j) v))) H1 → va_D A (mw cI cZ ad (mo_a (u3 (u3 σ 0 0 0 0) 14 0 (5 * k + j) v))) → va_S A H0 H1 locs1 → W p l e R s m args below meth c H1 locs1 cells slots Q (F0 m (pc + 3) ls (rest))) : W p l e R s m args below meth c H locs cells slots Q (F0 m pc ls (.int v :: .int y :: .int x :: .ref (ad 0) :: rest)) :=
  ok_VM (As := [.int x, .int y, .int v]) F (c_Mo_factor σ hk hk9 hj hj9 h1 h2 h3) 3 (tt_V hG i_Mo_factor l_Mo_factor in9_Mo k_Mo_factor) rfl ⟨rfl, rfl⟩ (by decide +kernel) hR hK hP hD hS hA (0) 6 rfl rfl mw_0 rfl hsz rfl hW hcs hdg kk
set_option maxHeartbeats 4000000 in
set_option maxRecDepth 100000 in
theorem c_Mo_factor_1 (σ : oS) {x : Int32} {y : Int32} {v : Int32} (hone : mo_in x 0 (σ 2 0 0 - 1) = 0 ∨ mo_in y 0 (σ 1 0 0 - 1) = 0) : ok_MM l y_Mo_factor (Cond.code y_Mo_factor b_Mo_factor 4 none :: tt) { frames := 2, cells := 0, slots := 0, locals := 43 } D vwCl (mt cI cZ) (mw cI cZ ad σ) (mw cI cZ ad (u3 σ 0 0 0 1)) [.ref (ad 0), .int x, .int y, .int v] none := by
  refine ok_startM (cc := b_Mo_factor) (own := RMo) (maxL := 4) (ret := none) (by decide +kernel) rfl rfl (Nat.le_of_ble_eq_true rfl) ?_
  intro p e s m below meth c A F hr hlk hA hP hK hD hS ls hl
  have hl : lv_has ls 4 [(0, .ref (ad 0)), (1, .int x), (2, .int y), (3, .int v)] := hl
  have hx := F.1
  have hb := F.2.1
  refine lv_aload_n hx hb d_Mo_factor_0 rfl (lv_at hl 0 rfl) ?_
  refine lv_aload_n hx hb d_Mo_factor_1 rfl (lv_at hl 0 rfl) ?_
  refine lv_iload_n hx hb d_Mo_factor_2 rfl (lv_at hl 1 rfl) ?_
  refine x_Mo_isRow F (tt4 10 rfl rfl) ⟨Nat.le_of_ble_eq_true rfl, Nat.le_of_ble_eq_true rfl⟩ hK hP hl.1 (Nat.le_of_ble_eq_true rfl) ⟨Nat.zero_le _, Nat.zero_le _⟩ d_Mo_factor_3 ?_
  refine lv_if_eq (tgt := 21) hx hb d_Mo_factor_6 (by decide) (fun c1 => ?_) (fun c1 => ?_)
  · refine lv_iconst (v := 0) hx hb d_Mo_factor_21 (by decide) ?_
    refine lv_iload_n hx hb d_Mo_factor_22 rfl (lv_at hl 3 rfl) ?_
    refine lv_bipush (v := -10) hx hb d_Mo_factor_23 (by decide) ?_
    refine lv_bipush (v := 10) hx hb d_Mo_factor_25 (by decide) ?_
    refine x_Mo_in F (tt3 227 rfl rfl) ⟨Nat.le_of_ble_eq_true rfl, Nat.le_of_ble_eq_true rfl⟩ hK hP hl.1 (Nat.le_of_ble_eq_true rfl) ⟨Nat.zero_le _, Nat.zero_le _⟩ d_Mo_factor_27 ?_
    refine x_Mo_goes F (tt3 230 rfl rfl) ⟨Nat.le_of_ble_eq_true rfl, Nat.le_of_ble_eq_true rfl⟩ hK hP hD hS hA hl.1 (Nat.le_of_ble_eq_true rfl) ⟨Nat.zero_le _, Nat.zero_le _⟩ d_Mo_factor_30 (fun H locs hP hD hS => ?_)
    have ew : u3 σ 0 0 0 (mo_g 0 (mo_in v (-10) 10)) = u3 σ 0 0 0 1 := by simp [mo_g]
    rw [ew] at hP hD
    clear ew
    refine lv_if_ne (tgt := 37) hx hb d_Mo_factor_33 (by decide) (fun c2 => ?_) (fun c2 => ?_)
    · exact absurd (by simp [mo_g]) c2
    · exact ok_vretM F hr hlk hP hD hS d_Mo_factor_36
  · refine lv_aload_n hx hb d_Mo_factor_9 rfl (lv_at hl 0 rfl) ?_
    refine lv_iload_n hx hb d_Mo_factor_10 rfl (lv_at hl 2 rfl) ?_
    refine x_Mo_isColumn F (tt4 14 rfl rfl) ⟨Nat.le_of_ble_eq_true rfl, Nat.le_of_ble_eq_true rfl⟩ hK hP hl.1 (Nat.le_of_ble_eq_true rfl) ⟨Nat.zero_le _, Nat.zero_le _⟩ d_Mo_factor_11 ?_
    refine lv_if_eq (tgt := 21) hx hb d_Mo_factor_14 (by decide) (fun c3 => ?_) (fun c3 => ?_)
    · refine lv_iconst (v := 0) hx hb d_Mo_factor_21 (by decide) ?_
      refine lv_iload_n hx hb d_Mo_factor_22 rfl (lv_at hl 3 rfl) ?_
      refine lv_bipush (v := -10) hx hb d_Mo_factor_23 (by decide) ?_
      refine lv_bipush (v := 10) hx hb d_Mo_factor_25 (by decide) ?_
      refine x_Mo_in F (tt3 227 rfl rfl) ⟨Nat.le_of_ble_eq_true rfl, Nat.le_of_ble_eq_true rfl⟩ hK hP hl.1 (Nat.le_of_ble_eq_true rfl) ⟨Nat.zero_le _, Nat.zero_le _⟩ d_Mo_factor_27 ?_
      refine x_Mo_goes F (tt3 230 rfl rfl) ⟨Nat.le_of_ble_eq_true rfl, Nat.le_of_ble_eq_true rfl⟩ hK hP hD hS hA hl.1 (Nat.le_of_ble_eq_true rfl) ⟨Nat.zero_le _, Nat.zero_le _⟩ d_Mo_factor_30 (fun H locs hP hD hS => ?_)
      have ew : u3 σ 0 0 0 (mo_g 0 (mo_in v (-10) 10)) = u3 σ 0 0 0 1 := by simp [mo_g]
      rw [ew] at hP hD
      clear ew
      refine lv_if_ne (tgt := 37) hx hb d_Mo_factor_33 (by decide) (fun c4 => ?_) (fun c4 => ?_)
      · exact absurd (by simp [mo_g]) c4
      · exact ok_vretM F hr hlk hP hD hS d_Mo_factor_36
    · exact absurd hone (fun q => q.elim c1 c3)
theorem x_Mo_factor_1 {σ : oS} {x : Int32} {y : Int32} {v : Int32} (hone : mo_in x 0 (σ 2 0 0 - 1) = 0 ∨ mo_in y 0 (σ 1 0 0 - 1) = 0) (F : CallFix p m c cc nL s args (cw :: tt) own) (hG : Cond.methodLink own index y_Mo_factor ∈ tt) (hR : 2 + 1 ≤ R.frames ∧ 8 + (4 + 11) + 43 ≤ R.locals) (hK : va_K D vwCl (mt cI cZ) s) (hP : va_P D vwCl (mw cI cZ ad σ) H) (hD : va_D A (mw cI cZ ad σ)) (hS : va_S A H0 H locs) (hA : ∀ q, H0.size ≤ q → A q) (hsz : ls.size = nL) (hW : (rest.map fun v => v.category).sum ≤ 8) (hcs : cells ≤ R.cells ∧ slots ≤ R.slots) (hdg : decode cc pc = .ok (.invokevirtual index, 3)) (kk : ∀ (H1 : Heap) (locs1 : List Loc), va_P D vwCl (mw cI cZ ad (u3 σ 0 0 0 1)) H1 → va_D A (mw cI cZ ad (u3 σ 0 0 0 1)) → va_S A H0 H1 locs1 → W p l e R s m args below meth c H1 locs1 cells slots Q (F0 m (pc + 3) ls (rest))) : W p l e R s m args below meth c H locs cells slots Q (F0 m pc ls (.int v :: .int y :: .int x :: .ref (ad 0) :: rest)) :=
  ok_VM (As := [.int x, .int y, .int v]) F (c_Mo_factor_1 σ hone) 3 (tt_V hG i_Mo_factor l_Mo_factor in9_Mo k_Mo_factor) rfl ⟨rfl, rfl⟩ (by decide +kernel) hR hK hP hD hS hA (0) 6 rfl rfl mw_0 rfl hsz rfl hW hcs hdg kk
set_option maxHeartbeats 4000000 in
set_option maxRecDepth 100000 in
theorem c_Mo_factor_2 (σ : oS) {x : Int32} {y : Int32} {v : Int32} (h1 : mo_in x 0 (σ 2 0 0 - 1) = 1) (h2 : mo_in y 0 (σ 1 0 0 - 1) = 1) (h3 : mo_in v (-10) 10 = 0) : ok_MM l y_Mo_factor (Cond.code y_Mo_factor b_Mo_factor 4 none :: tt) { frames := 2, cells := 0, slots := 0, locals := 43 } D vwCl (mt cI cZ) (mw cI cZ ad σ) (mw cI cZ ad (u3 σ 0 0 0 2)) [.ref (ad 0), .int x, .int y, .int v] none := by
  refine ok_startM (cc := b_Mo_factor) (own := RMo) (maxL := 4) (ret := none) (by decide +kernel) rfl rfl (Nat.le_of_ble_eq_true rfl) ?_
  intro p e s m below meth c A F hr hlk hA hP hK hD hS ls hl
  have hl : lv_has ls 4 [(0, .ref (ad 0)), (1, .int x), (2, .int y), (3, .int v)] := hl
  have hx := F.1
  have hb := F.2.1
  refine lv_aload_n hx hb d_Mo_factor_0 rfl (lv_at hl 0 rfl) ?_
  refine lv_aload_n hx hb d_Mo_factor_1 rfl (lv_at hl 0 rfl) ?_
  refine lv_iload_n hx hb d_Mo_factor_2 rfl (lv_at hl 1 rfl) ?_
  refine x_Mo_isRow F (tt4 10 rfl rfl) ⟨Nat.le_of_ble_eq_true rfl, Nat.le_of_ble_eq_true rfl⟩ hK hP hl.1 (Nat.le_of_ble_eq_true rfl) ⟨Nat.zero_le _, Nat.zero_le _⟩ d_Mo_factor_3 ?_
  refine lv_if_eq (tgt := 21) hx hb d_Mo_factor_6 (by decide) (fun c1 => ?_) (fun c1 => ?_)
  · first | exact absurd c1 (by rw [h1]; decide) | exact absurd c1 (by rw [h2]; decide)
  · refine lv_aload_n hx hb d_Mo_factor_9 rfl (lv_at hl 0 rfl) ?_
    refine lv_iload_n hx hb d_Mo_factor_10 rfl (lv_at hl 2 rfl) ?_
    refine x_Mo_isColumn F (tt4 14 rfl rfl) ⟨Nat.le_of_ble_eq_true rfl, Nat.le_of_ble_eq_true rfl⟩ hK hP hl.1 (Nat.le_of_ble_eq_true rfl) ⟨Nat.zero_le _, Nat.zero_le _⟩ d_Mo_factor_11 ?_
    refine lv_if_eq (tgt := 21) hx hb d_Mo_factor_14 (by decide) (fun c2 => ?_) (fun c2 => ?_)
    · first | exact absurd c2 (by rw [h1]; decide) | exact absurd c2 (by rw [h2]; decide)
    · refine lv_iconst (v := 1) hx hb d_Mo_factor_17 (by decide) ?_
      refine lv_goto (tgt := 22) hx hb d_Mo_factor_18 (by decide) ?_
      refine lv_iload_n hx hb d_Mo_factor_22 rfl (lv_at hl 3 rfl) ?_
      refine lv_bipush (v := -10) hx hb d_Mo_factor_23 (by decide) ?_
      refine lv_bipush (v := 10) hx hb d_Mo_factor_25 (by decide) ?_
      refine x_Mo_in F (tt3 227 rfl rfl) ⟨Nat.le_of_ble_eq_true rfl, Nat.le_of_ble_eq_true rfl⟩ hK hP hl.1 (Nat.le_of_ble_eq_true rfl) ⟨Nat.zero_le _, Nat.zero_le _⟩ d_Mo_factor_27 ?_
      refine x_Mo_goes F (tt3 230 rfl rfl) ⟨Nat.le_of_ble_eq_true rfl, Nat.le_of_ble_eq_true rfl⟩ hK hP hD hS hA hl.1 (Nat.le_of_ble_eq_true rfl) ⟨Nat.zero_le _, Nat.zero_le _⟩ d_Mo_factor_30 (fun H locs hP hD hS => ?_)
      have ew : u3 σ 0 0 0 (mo_g 1 (mo_in v (-10) 10)) = u3 σ 0 0 0 2 := by rw [h3]; simp [mo_g]
      rw [ew] at hP hD
      clear ew
      refine lv_if_ne (tgt := 37) hx hb d_Mo_factor_33 (by decide) (fun c3 => ?_) (fun c3 => ?_)
      · exact absurd (by rw [h3]; simp [mo_g]) c3
      · exact ok_vretM F hr hlk hP hD hS d_Mo_factor_36
theorem x_Mo_factor_2 {σ : oS} {x : Int32} {y : Int32} {v : Int32} (h1 : mo_in x 0 (σ 2 0 0 - 1) = 1) (h2 : mo_in y 0 (σ 1 0 0 - 1) = 1) (h3 : mo_in v (-10) 10 = 0) (F : CallFix p m c cc nL s args (cw :: tt) own) (hG : Cond.methodLink own index y_Mo_factor ∈ tt) (hR : 2 + 1 ≤ R.frames ∧ 8 + (4 + 11) + 43 ≤ R.locals) (hK : va_K D vwCl (mt cI cZ) s) (hP : va_P D vwCl (mw cI cZ ad σ) H) (hD : va_D A (mw cI cZ ad σ)) (hS : va_S A H0 H locs) (hA : ∀ q, H0.size ≤ q → A q) (hsz : ls.size = nL) (hW : (rest.map fun v => v.category).sum ≤ 8) (hcs : cells ≤ R.cells ∧ slots ≤ R.slots) (hdg : decode cc pc = .ok (.invokevirtual index, 3)) (kk : ∀ (H1 : Heap) (locs1 : List Loc), va_P D vwCl (mw cI cZ ad (u3 σ 0 0 0 2)) H1 → va_D A (mw cI cZ ad (u3 σ 0 0 0 2)) → va_S A H0 H1 locs1 → W p l e R s m args below meth c H1 locs1 cells slots Q (F0 m (pc + 3) ls (rest))) : W p l e R s m args below meth c H locs cells slots Q (F0 m pc ls (.int v :: .int y :: .int x :: .ref (ad 0) :: rest)) :=
  ok_VM (As := [.int x, .int y, .int v]) F (c_Mo_factor_2 σ h1 h2 h3) 3 (tt_V hG i_Mo_factor l_Mo_factor in9_Mo k_Mo_factor) rfl ⟨rfl, rfl⟩ (by decide +kernel) hR hK hP hD hS hA (0) 6 rfl rfl mw_0 rfl hsz rfl hW hcs hdg kk
set_option maxHeartbeats 4000000 in
set_option maxRecDepth 100000 in
theorem c_Mo_right (σ : oS) {x : Int32} {k : Nat} (hk : x = nI k) (hk9 : k < 4) {y : Int32} (h1 : mo_in x 0 (σ 2 0 0 - 1) = 1) (h3 : mo_in y (-10000) 10000 = 1) : ok_MM l y_Mo_right (Cond.code y_Mo_right b_Mo_right 3 none :: tt) { frames := 2, cells := 0, slots := 0, locals := 43 } D vwCl (mt cI cZ) (mw cI cZ ad σ) (mw cI cZ ad (mo_a (u3 (u3 σ 0 0 0 0) 13 0 k y))) [.ref (ad 0), .int x, .int y] none := by
  refine ok_startM (cc := b_Mo_right) (own := RMo) (maxL := 3) (ret := none) (by decide +kernel) rfl rfl (Nat.le_of_ble_eq_true rfl) ?_
  intro p e s m below meth c A F hr hlk hA hP hK hD hS ls hl
  have hl : lv_has ls 3 [(0, .ref (ad 0)), (1, .int x), (2, .int y)] := hl
  have hx := F.1
  have hb := F.2.1
  refine lv_aload_n hx hb d_Mo_right_0 rfl (lv_at hl 0 rfl) ?_
  refine lv_aload_n hx hb d_Mo_right_1 rfl (lv_at hl 0 rfl) ?_
  refine lv_iload_n hx hb d_Mo_right_2 rfl (lv_at hl 1 rfl) ?_
  refine x_Mo_isRow F (tt4 10 rfl rfl) ⟨Nat.le_of_ble_eq_true rfl, Nat.le_of_ble_eq_true rfl⟩ hK hP hl.1 (Nat.le_of_ble_eq_true rfl) ⟨Nat.zero_le _, Nat.zero_le _⟩ d_Mo_right_3 ?_
  refine lv_iload_n hx hb d_Mo_right_6 rfl (lv_at hl 2 rfl) ?_
  refine lv_sipush (v := -10000) hx hb d_Mo_right_7 (by decide) ?_
  refine lv_sipush (v := 10000) hx hb d_Mo_right_10 (by decide) ?_
  refine x_Mo_in F (tt3 227 rfl rfl) ⟨Nat.le_of_ble_eq_true rfl, Nat.le_of_ble_eq_true rfl⟩ hK hP hl.1 (Nat.le_of_ble_eq_true rfl) ⟨Nat.zero_le _, Nat.zero_le _⟩ d_Mo_right_13 ?_
  refine x_Mo_goes F (tt3 230 rfl rfl) ⟨Nat.le_of_ble_eq_true rfl, Nat.le_of_ble_eq_true rfl⟩ hK hP hD hS hA hl.1 (Nat.le_of_ble_eq_true rfl) ⟨Nat.zero_le _, Nat.zero_le _⟩ d_Mo_right_16 (fun H locs hP hD hS => ?_)
  have ew : u3 σ 0 0 0 (mo_g (mo_in x 0 (σ 2 0 0 - 1)) (mo_in y (-10000) 10000)) = u3 σ 0 0 0 0 := by rw [h1, h3]; simp [mo_g]
  rw [ew] at hP hD
  clear ew
  refine lv_if_ne (tgt := 23) hx hb d_Mo_right_19 (by decide) (fun c1 => ?_) (fun c1 => ?_)
  · refine lv_aload_n hx hb d_Mo_right_23 rfl (lv_at hl 0 rfl) ?_
    refine gf_Mo_right F hK hP d_Mo_right_24 ?_
    refine lv_iload_n hx hb d_Mo_right_27 rfl (lv_at hl 1 rfl) ?_
    refine lv_iload_n hx hb d_Mo_right_28 rfl (lv_at hl 2 rfl) ?_
    refine sm_13 (j := k) F hK hP hD hS hk (by omega) d_Mo_right_29 (fun H locs hP hD hS => ?_)
    refine lv_aload_n hx hb d_Mo_right_30 rfl (lv_at hl 0 rfl) ?_
    refine x_Mo_anew F (tt3 234 rfl rfl) ⟨Nat.le_of_ble_eq_true rfl, Nat.le_of_ble_eq_true rfl⟩ hK hP hD hS hA hl.1 (Nat.le_of_ble_eq_true rfl) ⟨Nat.zero_le _, Nat.zero_le _⟩ d_Mo_right_31 (fun H locs hP hD hS => ?_)
    exact ok_vretM F hr hlk hP hD hS d_Mo_right_34
  · exact absurd c1 (by rw [h1, h3]; simp [mo_g])
theorem x_Mo_right {σ : oS} {x : Int32} {k : Nat} (hk : x = nI k) (hk9 : k < 4) {y : Int32} (h1 : mo_in x 0 (σ 2 0 0 - 1) = 1) (h3 : mo_in y (-10000) 10000 = 1) (F : CallFix p m c cc nL s args (cw :: tt) own) (hG : Cond.methodLink own index y_Mo_right ∈ tt) (hR : 2 + 1 ≤ R.frames ∧ 8 + (3 + 11) + 43 ≤ R.locals) (hK : va_K D vwCl (mt cI cZ) s) (hP : va_P D vwCl (mw cI cZ ad σ) H) (hD : va_D A (mw cI cZ ad σ)) (hS : va_S A H0 H locs) (hA : ∀ q, H0.size ≤ q → A q) (hsz : ls.size = nL) (hW : (rest.map fun v => v.category).sum ≤ 8) (hcs : cells ≤ R.cells ∧ slots ≤ R.slots) (hdg : decode cc pc = .ok (.invokevirtual index, 3)) (kk : ∀ (H1 : Heap) (locs1 : List Loc), va_P D vwCl (mw cI cZ ad (mo_a (u3 (u3 σ 0 0 0 0) 13 0 k y))) H1 → va_D A (mw cI cZ ad (mo_a (u3 (u3 σ 0 0 0 0) 13 0 k y))) → va_S A H0 H1 locs1 → W p l e R s m args below meth c H1 locs1 cells slots Q (F0 m (pc + 3) ls (rest))) : W p l e R s m args below meth c H locs cells slots Q (F0 m pc ls (.int y :: .int x :: .ref (ad 0) :: rest)) :=
  ok_VM (As := [.int x, .int y]) F (c_Mo_right σ hk hk9 h1 h3) 2 (tt_V hG i_Mo_right l_Mo_right in9_Mo k_Mo_right) rfl ⟨rfl, rfl⟩ (by decide +kernel) hR hK hP hD hS hA (0) 6 rfl rfl mw_0 rfl hsz rfl hW hcs hdg kk
set_option maxHeartbeats 4000000 in
set_option maxRecDepth 100000 in
theorem c_Mo_right_1 (σ : oS) {x : Int32} {y : Int32} (h1 : mo_in x 0 (σ 2 0 0 - 1) = 0) : ok_MM l y_Mo_right (Cond.code y_Mo_right b_Mo_right 3 none :: tt) { frames := 2, cells := 0, slots := 0, locals := 43 } D vwCl (mt cI cZ) (mw cI cZ ad σ) (mw cI cZ ad (u3 σ 0 0 0 1)) [.ref (ad 0), .int x, .int y] none := by
  refine ok_startM (cc := b_Mo_right) (own := RMo) (maxL := 3) (ret := none) (by decide +kernel) rfl rfl (Nat.le_of_ble_eq_true rfl) ?_
  intro p e s m below meth c A F hr hlk hA hP hK hD hS ls hl
  have hl : lv_has ls 3 [(0, .ref (ad 0)), (1, .int x), (2, .int y)] := hl
  have hx := F.1
  have hb := F.2.1
  refine lv_aload_n hx hb d_Mo_right_0 rfl (lv_at hl 0 rfl) ?_
  refine lv_aload_n hx hb d_Mo_right_1 rfl (lv_at hl 0 rfl) ?_
  refine lv_iload_n hx hb d_Mo_right_2 rfl (lv_at hl 1 rfl) ?_
  refine x_Mo_isRow F (tt4 10 rfl rfl) ⟨Nat.le_of_ble_eq_true rfl, Nat.le_of_ble_eq_true rfl⟩ hK hP hl.1 (Nat.le_of_ble_eq_true rfl) ⟨Nat.zero_le _, Nat.zero_le _⟩ d_Mo_right_3 ?_
  refine lv_iload_n hx hb d_Mo_right_6 rfl (lv_at hl 2 rfl) ?_
  refine lv_sipush (v := -10000) hx hb d_Mo_right_7 (by decide) ?_
  refine lv_sipush (v := 10000) hx hb d_Mo_right_10 (by decide) ?_
  refine x_Mo_in F (tt3 227 rfl rfl) ⟨Nat.le_of_ble_eq_true rfl, Nat.le_of_ble_eq_true rfl⟩ hK hP hl.1 (Nat.le_of_ble_eq_true rfl) ⟨Nat.zero_le _, Nat.zero_le _⟩ d_Mo_right_13 ?_
  refine x_Mo_goes F (tt3 230 rfl rfl) ⟨Nat.le_of_ble_eq_true rfl, Nat.le_of_ble_eq_true rfl⟩ hK hP hD hS hA hl.1 (Nat.le_of_ble_eq_true rfl) ⟨Nat.zero_le _, Nat.zero_le _⟩ d_Mo_right_16 (fun H locs hP hD hS => ?_)
  have ew : u3 σ 0 0 0 (mo_g (mo_in x 0 (σ 2 0 0 - 1)) (mo_in y (-10000) 10000)) = u3 σ 0 0 0 1 := by rw [h1]; simp [mo_g]
  rw [ew] at hP hD
  clear ew
  refine lv_if_ne (tgt := 23) hx hb d_Mo_right_19 (by decide) (fun c1 => ?_) (fun c1 => ?_)
  · exact absurd (by rw [h1]; simp [mo_g]) c1
  · exact ok_vretM F hr hlk hP hD hS d_Mo_right_22
theorem x_Mo_right_1 {σ : oS} {x : Int32} {y : Int32} (h1 : mo_in x 0 (σ 2 0 0 - 1) = 0) (F : CallFix p m c cc nL s args (cw :: tt) own) (hG : Cond.methodLink own index y_Mo_right ∈ tt) (hR : 2 + 1 ≤ R.frames ∧ 8 + (3 + 11) + 43 ≤ R.locals) (hK : va_K D vwCl (mt cI cZ) s) (hP : va_P D vwCl (mw cI cZ ad σ) H) (hD : va_D A (mw cI cZ ad σ)) (hS : va_S A H0 H locs) (hA : ∀ q, H0.size ≤ q → A q) (hsz : ls.size = nL) (hW : (rest.map fun v => v.category).sum ≤ 8) (hcs : cells ≤ R.cells ∧ slots ≤ R.slots) (hdg : decode cc pc = .ok (.invokevirtual index, 3)) (kk : ∀ (H1 : Heap) (locs1 : List Loc), va_P D vwCl (mw cI cZ ad (u3 σ 0 0 0 1)) H1 → va_D A (mw cI cZ ad (u3 σ 0 0 0 1)) → va_S A H0 H1 locs1 → W p l e R s m args below meth c H1 locs1 cells slots Q (F0 m (pc + 3) ls (rest))) : W p l e R s m args below meth c H locs cells slots Q (F0 m pc ls (.int y :: .int x :: .ref (ad 0) :: rest)) :=
  ok_VM (As := [.int x, .int y]) F (c_Mo_right_1 σ h1) 2 (tt_V hG i_Mo_right l_Mo_right in9_Mo k_Mo_right) rfl ⟨rfl, rfl⟩ (by decide +kernel) hR hK hP hD hS hA (0) 6 rfl rfl mw_0 rfl hsz rfl hW hcs hdg kk
set_option maxHeartbeats 4000000 in
set_option maxRecDepth 100000 in
theorem c_Mo_right_2 (σ : oS) {x : Int32} {y : Int32} (h1 : mo_in x 0 (σ 2 0 0 - 1) = 1) (h3 : mo_in y (-10000) 10000 = 0) : ok_MM l y_Mo_right (Cond.code y_Mo_right b_Mo_right 3 none :: tt) { frames := 2, cells := 0, slots := 0, locals := 43 } D vwCl (mt cI cZ) (mw cI cZ ad σ) (mw cI cZ ad (u3 σ 0 0 0 2)) [.ref (ad 0), .int x, .int y] none := by
  refine ok_startM (cc := b_Mo_right) (own := RMo) (maxL := 3) (ret := none) (by decide +kernel) rfl rfl (Nat.le_of_ble_eq_true rfl) ?_
  intro p e s m below meth c A F hr hlk hA hP hK hD hS ls hl
  have hl : lv_has ls 3 [(0, .ref (ad 0)), (1, .int x), (2, .int y)] := hl
  have hx := F.1
  have hb := F.2.1
  refine lv_aload_n hx hb d_Mo_right_0 rfl (lv_at hl 0 rfl) ?_
  refine lv_aload_n hx hb d_Mo_right_1 rfl (lv_at hl 0 rfl) ?_
  refine lv_iload_n hx hb d_Mo_right_2 rfl (lv_at hl 1 rfl) ?_
  refine x_Mo_isRow F (tt4 10 rfl rfl) ⟨Nat.le_of_ble_eq_true rfl, Nat.le_of_ble_eq_true rfl⟩ hK hP hl.1 (Nat.le_of_ble_eq_true rfl) ⟨Nat.zero_le _, Nat.zero_le _⟩ d_Mo_right_3 ?_
  refine lv_iload_n hx hb d_Mo_right_6 rfl (lv_at hl 2 rfl) ?_
  refine lv_sipush (v := -10000) hx hb d_Mo_right_7 (by decide) ?_
  refine lv_sipush (v := 10000) hx hb d_Mo_right_10 (by decide) ?_
  refine x_Mo_in F (tt3 227 rfl rfl) ⟨Nat.le_of_ble_eq_true rfl, Nat.le_of_ble_eq_true rfl⟩ hK hP hl.1 (Nat.le_of_ble_eq_true rfl) ⟨Nat.zero_le _, Nat.zero_le _⟩ d_Mo_right_13 ?_
  refine x_Mo_goes F (tt3 230 rfl rfl) ⟨Nat.le_of_ble_eq_true rfl, Nat.le_of_ble_eq_true rfl⟩ hK hP hD hS hA hl.1 (Nat.le_of_ble_eq_true rfl) ⟨Nat.zero_le _, Nat.zero_le _⟩ d_Mo_right_16 (fun H locs hP hD hS => ?_)
  have ew : u3 σ 0 0 0 (mo_g (mo_in x 0 (σ 2 0 0 - 1)) (mo_in y (-10000) 10000)) = u3 σ 0 0 0 2 := by rw [h1, h3]; simp [mo_g]
  rw [ew] at hP hD
  clear ew
  refine lv_if_ne (tgt := 23) hx hb d_Mo_right_19 (by decide) (fun c1 => ?_) (fun c1 => ?_)
  · exact absurd (by rw [h1, h3]; simp [mo_g]) c1
  · exact ok_vretM F hr hlk hP hD hS d_Mo_right_22
theorem x_Mo_right_2 {σ : oS} {x : Int32} {y : Int32} (h1 : mo_in x 0 (σ 2 0 0 - 1) = 1) (h3 : mo_in y (-10000) 10000 = 0) (F : CallFix p m c cc nL s args (cw :: tt) own) (hG : Cond.methodLink own index y_Mo_right ∈ tt) (hR : 2 + 1 ≤ R.frames ∧ 8 + (3 + 11) + 43 ≤ R.locals) (hK : va_K D vwCl (mt cI cZ) s) (hP : va_P D vwCl (mw cI cZ ad σ) H) (hD : va_D A (mw cI cZ ad σ)) (hS : va_S A H0 H locs) (hA : ∀ q, H0.size ≤ q → A q) (hsz : ls.size = nL) (hW : (rest.map fun v => v.category).sum ≤ 8) (hcs : cells ≤ R.cells ∧ slots ≤ R.slots) (hdg : decode cc pc = .ok (.invokevirtual index, 3)) (kk : ∀ (H1 : Heap) (locs1 : List Loc), va_P D vwCl (mw cI cZ ad (u3 σ 0 0 0 2)) H1 → va_D A (mw cI cZ ad (u3 σ 0 0 0 2)) → va_S A H0 H1 locs1 → W p l e R s m args below meth c H1 locs1 cells slots Q (F0 m (pc + 3) ls (rest))) : W p l e R s m args below meth c H locs cells slots Q (F0 m pc ls (.int y :: .int x :: .ref (ad 0) :: rest)) :=
  ok_VM (As := [.int x, .int y]) F (c_Mo_right_2 σ h1 h3) 2 (tt_V hG i_Mo_right l_Mo_right in9_Mo k_Mo_right) rfl ⟨rfl, rfl⟩ (by decide +kernel) hR hK hP hD hS hA (0) 6 rfl rfl mw_0 rfl hsz rfl hW hcs hdg kk
set_option maxHeartbeats 4000000 in
set_option maxRecDepth 100000 in
theorem c_Mo_told (σ : oS) {x : Int32} (h1 : mo_in x 0 1 = 1) (h2 : x = 1 ∨ ¬ σ 7 0 0 = 0) : ok_MM l y_Mo_told (Cond.code y_Mo_told b_Mo_told 2 (some .int) :: tt) { frames := 1, cells := 0, slots := 0, locals := 22 } D vwCl (mt cI cZ) (mw cI cZ ad σ) (mw cI cZ ad (u3 σ 0 0 0 0)) [.ref (ad 0), .int x] (some (.int (if x = 0 then σ 9 0 0 else σ 8 0 0))) := by
  refine ok_startM (cc := b_Mo_told) (own := RMo) (maxL := 2) (ret := (some .int)) (by decide +kernel) rfl rfl (Nat.le_of_ble_eq_true rfl) ?_
  intro p e s m below meth c A F hr hlk hA hP hK hD hS ls hl
  have hl : lv_has ls 2 [(0, .ref (ad 0)), (1, .int x)] := hl
  have hx := F.1
  have hb := F.2.1
  refine lv_aload_n hx hb d_Mo_told_0 rfl (lv_at hl 0 rfl) ?_
  refine lv_iload_n hx hb d_Mo_told_1 rfl (lv_at hl 1 rfl) ?_
  refine lv_iconst (v := 0) hx hb d_Mo_told_2 (by decide) ?_
  refine lv_iconst (v := 1) hx hb d_Mo_told_3 (by decide) ?_
  refine x_Mo_in F (tt3 227 rfl rfl) ⟨Nat.le_of_ble_eq_true rfl, Nat.le_of_ble_eq_true rfl⟩ hK hP hl.1 (Nat.le_of_ble_eq_true rfl) ⟨Nat.zero_le _, Nat.zero_le _⟩ d_Mo_told_4 ?_
  refine lv_iload_n hx hb d_Mo_told_7 rfl (lv_at hl 1 rfl) ?_
  refine lv_iconst (v := 1) hx hb d_Mo_told_8 (by decide) ?_
  refine lv_icmp_eq (tgt := 19) hx hb d_Mo_told_9 (by decide) (fun c1 => ?_) (fun c1 => ?_)
  · refine lv_iconst (v := 1) hx hb d_Mo_told_19 (by decide) ?_
    refine lv_goto (tgt := 24) hx hb d_Mo_told_20 (by decide) ?_
    refine x_Mo_goes F (tt3 230 rfl rfl) ⟨Nat.le_of_ble_eq_true rfl, Nat.le_of_ble_eq_true rfl⟩ hK hP hD hS hA hl.1 (Nat.le_of_ble_eq_true rfl) ⟨Nat.zero_le _, Nat.zero_le _⟩ d_Mo_told_24 (fun H locs hP hD hS => ?_)
    have ew : u3 σ 0 0 0 (mo_g (mo_in x 0 1) 1) = u3 σ 0 0 0 0 := by rw [h1]; simp [mo_g]
    rw [ew] at hP hD
    clear ew
    refine lv_if_ne (tgt := 32) hx hb d_Mo_told_27 (by decide) (fun c2 => ?_) (fun c2 => ?_)
    · refine lv_iload_n hx hb d_Mo_told_32 rfl (lv_at hl 1 rfl) ?_
      refine lv_if_ne (tgt := 43) hx hb d_Mo_told_33 (by decide) (fun c3 => ?_) (fun c3 => ?_)
      · refine lv_aload_n hx hb d_Mo_told_43 rfl (lv_at hl 0 rfl) ?_
        refine gf_Mo_steps F hK hP d_Mo_told_44 ?_
        exact ok_iretM F hr hlk hP hD hS (by first | (rw [if_pos c3, u3_c (by decide)]; done) | rw [if_neg c3, u3_c (by decide)]) d_Mo_told_47
      · refine lv_aload_n hx hb d_Mo_told_36 rfl (lv_at hl 0 rfl) ?_
        refine gf_Mo_bestWorth F hK hP d_Mo_told_37 ?_
        refine lv_goto (tgt := 47) hx hb d_Mo_told_40 (by decide) ?_
        exact ok_iretM F hr hlk hP hD hS (by first | (rw [if_pos c3, u3_c (by decide)]; done) | rw [if_neg c3, u3_c (by decide)]) d_Mo_told_47
    · exact absurd c2 (by rw [h1]; simp [mo_g])
  · refine lv_aload_n hx hb d_Mo_told_12 rfl (lv_at hl 0 rfl) ?_
    refine gf_Mo_found F hK hP d_Mo_told_13 ?_
    refine lv_if_eq (tgt := 23) hx hb d_Mo_told_16 (by decide) (fun c4 => ?_) (fun c4 => ?_)
    · exact absurd h2 (fun q => q.elim c1 (fun k => k c4))
    · refine lv_iconst (v := 1) hx hb d_Mo_told_19 (by decide) ?_
      refine lv_goto (tgt := 24) hx hb d_Mo_told_20 (by decide) ?_
      refine x_Mo_goes F (tt3 230 rfl rfl) ⟨Nat.le_of_ble_eq_true rfl, Nat.le_of_ble_eq_true rfl⟩ hK hP hD hS hA hl.1 (Nat.le_of_ble_eq_true rfl) ⟨Nat.zero_le _, Nat.zero_le _⟩ d_Mo_told_24 (fun H locs hP hD hS => ?_)
      have ew : u3 σ 0 0 0 (mo_g (mo_in x 0 1) 1) = u3 σ 0 0 0 0 := by rw [h1]; simp [mo_g]
      rw [ew] at hP hD
      clear ew
      refine lv_if_ne (tgt := 32) hx hb d_Mo_told_27 (by decide) (fun c5 => ?_) (fun c5 => ?_)
      · refine lv_iload_n hx hb d_Mo_told_32 rfl (lv_at hl 1 rfl) ?_
        refine lv_if_ne (tgt := 43) hx hb d_Mo_told_33 (by decide) (fun c6 => ?_) (fun c6 => ?_)
        · refine lv_aload_n hx hb d_Mo_told_43 rfl (lv_at hl 0 rfl) ?_
          refine gf_Mo_steps F hK hP d_Mo_told_44 ?_
          exact ok_iretM F hr hlk hP hD hS (by first | (rw [if_pos c6, u3_c (by decide)]; done) | rw [if_neg c6, u3_c (by decide)]) d_Mo_told_47
        · refine lv_aload_n hx hb d_Mo_told_36 rfl (lv_at hl 0 rfl) ?_
          refine gf_Mo_bestWorth F hK hP d_Mo_told_37 ?_
          refine lv_goto (tgt := 47) hx hb d_Mo_told_40 (by decide) ?_
          exact ok_iretM F hr hlk hP hD hS (by first | (rw [if_pos c6, u3_c (by decide)]; done) | rw [if_neg c6, u3_c (by decide)]) d_Mo_told_47
      · exact absurd c5 (by rw [h1]; simp [mo_g])
theorem x_Mo_told {σ : oS} {x : Int32} (h1 : mo_in x 0 1 = 1) (h2 : x = 1 ∨ ¬ σ 7 0 0 = 0) (F : CallFix p m c cc nL s args (cw :: tt) own) (hG : Cond.methodLink own index y_Mo_told ∈ tt) (hR : 1 + 1 ≤ R.frames ∧ 8 + (2 + 11) + 22 ≤ R.locals) (hK : va_K D vwCl (mt cI cZ) s) (hP : va_P D vwCl (mw cI cZ ad σ) H) (hD : va_D A (mw cI cZ ad σ)) (hS : va_S A H0 H locs) (hA : ∀ q, H0.size ≤ q → A q) (hsz : ls.size = nL) (hW : (rest.map fun v => v.category).sum ≤ 8) (hcs : cells ≤ R.cells ∧ slots ≤ R.slots) (hdg : decode cc pc = .ok (.invokevirtual index, 3)) (kk : ∀ (H1 : Heap) (locs1 : List Loc), va_P D vwCl (mw cI cZ ad (u3 σ 0 0 0 0)) H1 → va_D A (mw cI cZ ad (u3 σ 0 0 0 0)) → va_S A H0 H1 locs1 → W p l e R s m args below meth c H1 locs1 cells slots Q (F0 m (pc + 3) ls (.int (if x = 0 then σ 9 0 0 else σ 8 0 0) :: rest))) : W p l e R s m args below meth c H locs cells slots Q (F0 m pc ls (.int x :: .ref (ad 0) :: rest)) :=
  ok_VM (As := [.int x]) F (c_Mo_told σ h1 h2) 1 (tt_V hG i_Mo_told l_Mo_told in9_Mo k_Mo_told) rfl ⟨rfl, rfl⟩ (by decide +kernel) hR hK hP hD hS hA (0) 6 rfl rfl mw_0 rfl hsz rfl hW hcs hdg kk
set_option maxHeartbeats 4000000 in
set_option maxRecDepth 100000 in
theorem c_Mo_told_1 (σ : oS) {x : Int32} (h1 : mo_in x 0 1 = 0) : ok_MM l y_Mo_told (Cond.code y_Mo_told b_Mo_told 2 (some .int) :: tt) { frames := 1, cells := 0, slots := 0, locals := 22 } D vwCl (mt cI cZ) (mw cI cZ ad σ) (mw cI cZ ad (u3 σ 0 0 0 1)) [.ref (ad 0), .int x] (some (.int 0)) := by
  refine ok_startM (cc := b_Mo_told) (own := RMo) (maxL := 2) (ret := (some .int)) (by decide +kernel) rfl rfl (Nat.le_of_ble_eq_true rfl) ?_
  intro p e s m below meth c A F hr hlk hA hP hK hD hS ls hl
  have hl : lv_has ls 2 [(0, .ref (ad 0)), (1, .int x)] := hl
  have hx := F.1
  have hb := F.2.1
  refine lv_aload_n hx hb d_Mo_told_0 rfl (lv_at hl 0 rfl) ?_
  refine lv_iload_n hx hb d_Mo_told_1 rfl (lv_at hl 1 rfl) ?_
  refine lv_iconst (v := 0) hx hb d_Mo_told_2 (by decide) ?_
  refine lv_iconst (v := 1) hx hb d_Mo_told_3 (by decide) ?_
  refine x_Mo_in F (tt3 227 rfl rfl) ⟨Nat.le_of_ble_eq_true rfl, Nat.le_of_ble_eq_true rfl⟩ hK hP hl.1 (Nat.le_of_ble_eq_true rfl) ⟨Nat.zero_le _, Nat.zero_le _⟩ d_Mo_told_4 ?_
  refine lv_iload_n hx hb d_Mo_told_7 rfl (lv_at hl 1 rfl) ?_
  refine lv_iconst (v := 1) hx hb d_Mo_told_8 (by decide) ?_
  refine lv_icmp_eq (tgt := 19) hx hb d_Mo_told_9 (by decide) (fun c1 => ?_) (fun c1 => ?_)
  · refine lv_iconst (v := 1) hx hb d_Mo_told_19 (by decide) ?_
    refine lv_goto (tgt := 24) hx hb d_Mo_told_20 (by decide) ?_
    refine x_Mo_goes F (tt3 230 rfl rfl) ⟨Nat.le_of_ble_eq_true rfl, Nat.le_of_ble_eq_true rfl⟩ hK hP hD hS hA hl.1 (Nat.le_of_ble_eq_true rfl) ⟨Nat.zero_le _, Nat.zero_le _⟩ d_Mo_told_24 (fun H locs hP hD hS => ?_)
    have ew : u3 σ 0 0 0 (mo_g (mo_in x 0 1) 1) = u3 σ 0 0 0 1 := by rw [h1]; simp [mo_g]
    rw [ew] at hP hD
    clear ew
    refine lv_if_ne (tgt := 32) hx hb d_Mo_told_27 (by decide) (fun c2 => ?_) (fun c2 => ?_)
    · exact absurd (by rw [h1]; simp [mo_g]) c2
    · refine lv_iconst (v := 0) hx hb d_Mo_told_30 (by decide) ?_
      exact ok_iretM F hr hlk hP hD hS (rfl) d_Mo_told_31
  · refine lv_aload_n hx hb d_Mo_told_12 rfl (lv_at hl 0 rfl) ?_
    refine gf_Mo_found F hK hP d_Mo_told_13 ?_
    refine lv_if_eq (tgt := 23) hx hb d_Mo_told_16 (by decide) (fun c3 => ?_) (fun c3 => ?_)
    · refine lv_iconst (v := 0) hx hb d_Mo_told_23 (by decide) ?_
      refine x_Mo_goes F (tt3 230 rfl rfl) ⟨Nat.le_of_ble_eq_true rfl, Nat.le_of_ble_eq_true rfl⟩ hK hP hD hS hA hl.1 (Nat.le_of_ble_eq_true rfl) ⟨Nat.zero_le _, Nat.zero_le _⟩ d_Mo_told_24 (fun H locs hP hD hS => ?_)
      have ew : u3 σ 0 0 0 (mo_g (mo_in x 0 1) 0) = u3 σ 0 0 0 1 := by rw [h1]; simp [mo_g]
      rw [ew] at hP hD
      clear ew
      refine lv_if_ne (tgt := 32) hx hb d_Mo_told_27 (by decide) (fun c4 => ?_) (fun c4 => ?_)
      · exact absurd (by rw [h1]; simp [mo_g]) c4
      · refine lv_iconst (v := 0) hx hb d_Mo_told_30 (by decide) ?_
        exact ok_iretM F hr hlk hP hD hS (rfl) d_Mo_told_31
    · refine lv_iconst (v := 1) hx hb d_Mo_told_19 (by decide) ?_
      refine lv_goto (tgt := 24) hx hb d_Mo_told_20 (by decide) ?_
      refine x_Mo_goes F (tt3 230 rfl rfl) ⟨Nat.le_of_ble_eq_true rfl, Nat.le_of_ble_eq_true rfl⟩ hK hP hD hS hA hl.1 (Nat.le_of_ble_eq_true rfl) ⟨Nat.zero_le _, Nat.zero_le _⟩ d_Mo_told_24 (fun H locs hP hD hS => ?_)
      have ew : u3 σ 0 0 0 (mo_g (mo_in x 0 1) 1) = u3 σ 0 0 0 1 := by rw [h1]; simp [mo_g]
      rw [ew] at hP hD
      clear ew
      refine lv_if_ne (tgt := 32) hx hb d_Mo_told_27 (by decide) (fun c5 => ?_) (fun c5 => ?_)
      · exact absurd (by rw [h1]; simp [mo_g]) c5
      · refine lv_iconst (v := 0) hx hb d_Mo_told_30 (by decide) ?_
        exact ok_iretM F hr hlk hP hD hS (rfl) d_Mo_told_31
theorem x_Mo_told_1 {σ : oS} {x : Int32} (h1 : mo_in x 0 1 = 0) (F : CallFix p m c cc nL s args (cw :: tt) own) (hG : Cond.methodLink own index y_Mo_told ∈ tt) (hR : 1 + 1 ≤ R.frames ∧ 8 + (2 + 11) + 22 ≤ R.locals) (hK : va_K D vwCl (mt cI cZ) s) (hP : va_P D vwCl (mw cI cZ ad σ) H) (hD : va_D A (mw cI cZ ad σ)) (hS : va_S A H0 H locs) (hA : ∀ q, H0.size ≤ q → A q) (hsz : ls.size = nL) (hW : (rest.map fun v => v.category).sum ≤ 8) (hcs : cells ≤ R.cells ∧ slots ≤ R.slots) (hdg : decode cc pc = .ok (.invokevirtual index, 3)) (kk : ∀ (H1 : Heap) (locs1 : List Loc), va_P D vwCl (mw cI cZ ad (u3 σ 0 0 0 1)) H1 → va_D A (mw cI cZ ad (u3 σ 0 0 0 1)) → va_S A H0 H1 locs1 → W p l e R s m args below meth c H1 locs1 cells slots Q (F0 m (pc + 3) ls (.int 0 :: rest))) : W p l e R s m args below meth c H locs cells slots Q (F0 m pc ls (.int x :: .ref (ad 0) :: rest)) :=
  ok_VM (As := [.int x]) F (c_Mo_told_1 σ h1) 1 (tt_V hG i_Mo_told l_Mo_told in9_Mo k_Mo_told) rfl ⟨rfl, rfl⟩ (by decide +kernel) hR hK hP hD hS hA (0) 6 rfl rfl mw_0 rfl hsz rfl hW hcs hdg kk
set_option maxHeartbeats 4000000 in
set_option maxRecDepth 100000 in
theorem c_Mo_told_2 (σ : oS) {x : Int32} (h1 : mo_in x 0 1 = 1) (h2 : ¬ x = 1) (h3 : σ 7 0 0 = 0) : ok_MM l y_Mo_told (Cond.code y_Mo_told b_Mo_told 2 (some .int) :: tt) { frames := 1, cells := 0, slots := 0, locals := 22 } D vwCl (mt cI cZ) (mw cI cZ ad σ) (mw cI cZ ad (u3 σ 0 0 0 2)) [.ref (ad 0), .int x] (some (.int 0)) := by
  refine ok_startM (cc := b_Mo_told) (own := RMo) (maxL := 2) (ret := (some .int)) (by decide +kernel) rfl rfl (Nat.le_of_ble_eq_true rfl) ?_
  intro p e s m below meth c A F hr hlk hA hP hK hD hS ls hl
  have hl : lv_has ls 2 [(0, .ref (ad 0)), (1, .int x)] := hl
  have hx := F.1
  have hb := F.2.1
  refine lv_aload_n hx hb d_Mo_told_0 rfl (lv_at hl 0 rfl) ?_
  refine lv_iload_n hx hb d_Mo_told_1 rfl (lv_at hl 1 rfl) ?_
  refine lv_iconst (v := 0) hx hb d_Mo_told_2 (by decide) ?_
  refine lv_iconst (v := 1) hx hb d_Mo_told_3 (by decide) ?_
  refine x_Mo_in F (tt3 227 rfl rfl) ⟨Nat.le_of_ble_eq_true rfl, Nat.le_of_ble_eq_true rfl⟩ hK hP hl.1 (Nat.le_of_ble_eq_true rfl) ⟨Nat.zero_le _, Nat.zero_le _⟩ d_Mo_told_4 ?_
  refine lv_iload_n hx hb d_Mo_told_7 rfl (lv_at hl 1 rfl) ?_
  refine lv_iconst (v := 1) hx hb d_Mo_told_8 (by decide) ?_
  refine lv_icmp_eq (tgt := 19) hx hb d_Mo_told_9 (by decide) (fun c1 => ?_) (fun c1 => ?_)
  · first | exact absurd c1 h2 | exact absurd h3 c1
  · refine lv_aload_n hx hb d_Mo_told_12 rfl (lv_at hl 0 rfl) ?_
    refine gf_Mo_found F hK hP d_Mo_told_13 ?_
    refine lv_if_eq (tgt := 23) hx hb d_Mo_told_16 (by decide) (fun c2 => ?_) (fun c2 => ?_)
    · refine lv_iconst (v := 0) hx hb d_Mo_told_23 (by decide) ?_
      refine x_Mo_goes F (tt3 230 rfl rfl) ⟨Nat.le_of_ble_eq_true rfl, Nat.le_of_ble_eq_true rfl⟩ hK hP hD hS hA hl.1 (Nat.le_of_ble_eq_true rfl) ⟨Nat.zero_le _, Nat.zero_le _⟩ d_Mo_told_24 (fun H locs hP hD hS => ?_)
      have ew : u3 σ 0 0 0 (mo_g (mo_in x 0 1) 0) = u3 σ 0 0 0 2 := by rw [h1]; simp [mo_g]
      rw [ew] at hP hD
      clear ew
      refine lv_if_ne (tgt := 32) hx hb d_Mo_told_27 (by decide) (fun c3 => ?_) (fun c3 => ?_)
      · exact absurd (by rw [h1]; simp [mo_g]) c3
      · refine lv_iconst (v := 0) hx hb d_Mo_told_30 (by decide) ?_
        exact ok_iretM F hr hlk hP hD hS (rfl) d_Mo_told_31
    · first | exact absurd c2 h2 | exact absurd h3 c2
theorem x_Mo_told_2 {σ : oS} {x : Int32} (h1 : mo_in x 0 1 = 1) (h2 : ¬ x = 1) (h3 : σ 7 0 0 = 0) (F : CallFix p m c cc nL s args (cw :: tt) own) (hG : Cond.methodLink own index y_Mo_told ∈ tt) (hR : 1 + 1 ≤ R.frames ∧ 8 + (2 + 11) + 22 ≤ R.locals) (hK : va_K D vwCl (mt cI cZ) s) (hP : va_P D vwCl (mw cI cZ ad σ) H) (hD : va_D A (mw cI cZ ad σ)) (hS : va_S A H0 H locs) (hA : ∀ q, H0.size ≤ q → A q) (hsz : ls.size = nL) (hW : (rest.map fun v => v.category).sum ≤ 8) (hcs : cells ≤ R.cells ∧ slots ≤ R.slots) (hdg : decode cc pc = .ok (.invokevirtual index, 3)) (kk : ∀ (H1 : Heap) (locs1 : List Loc), va_P D vwCl (mw cI cZ ad (u3 σ 0 0 0 2)) H1 → va_D A (mw cI cZ ad (u3 σ 0 0 0 2)) → va_S A H0 H1 locs1 → W p l e R s m args below meth c H1 locs1 cells slots Q (F0 m (pc + 3) ls (.int 0 :: rest))) : W p l e R s m args below meth c H locs cells slots Q (F0 m pc ls (.int x :: .ref (ad 0) :: rest)) :=
  ok_VM (As := [.int x]) F (c_Mo_told_2 σ h1 h2 h3) 1 (tt_V hG i_Mo_told l_Mo_told in9_Mo k_Mo_told) rfl ⟨rfl, rfl⟩ (by decide +kernel) hR hK hP hD hS hA (0) 6 rfl rfl mw_0 rfl hsz rfl hW hcs hdg kk
set_option maxHeartbeats 4000000 in
set_option maxRecDepth 100000 in
theorem c_Mo_value (σ : oS) {x : Int32} {j : Nat} (hj : x = nI j) (hj9 : j < 5) (h1 : mo_in x 0 (σ 1 0 0 - 1) = 1) (h2 : σ 7 0 0 = 1) : ok_MM l y_Mo_value (Cond.code y_Mo_value b_Mo_value 2 (some .int) :: tt) { frames := 2, cells := 0, slots := 0, locals := 43 } D vwCl (mt cI cZ) (mw cI cZ ad σ) (mw cI cZ ad (u3 σ 0 0 0 0)) [.ref (ad 0), .int x] (some (.int (σ 21 0 j))) := by
  refine ok_startM (cc := b_Mo_value) (own := RMo) (maxL := 2) (ret := (some .int)) (by decide +kernel) rfl rfl (Nat.le_of_ble_eq_true rfl) ?_
  intro p e s m below meth c A F hr hlk hA hP hK hD hS ls hl
  have hl : lv_has ls 2 [(0, .ref (ad 0)), (1, .int x)] := hl
  have hx := F.1
  have hb := F.2.1
  refine lv_aload_n hx hb d_Mo_value_0 rfl (lv_at hl 0 rfl) ?_
  refine lv_aload_n hx hb d_Mo_value_1 rfl (lv_at hl 0 rfl) ?_
  refine lv_iload_n hx hb d_Mo_value_2 rfl (lv_at hl 1 rfl) ?_
  refine x_Mo_isColumn F (tt4 14 rfl rfl) ⟨Nat.le_of_ble_eq_true rfl, Nat.le_of_ble_eq_true rfl⟩ hK hP hl.1 (Nat.le_of_ble_eq_true rfl) ⟨Nat.zero_le _, Nat.zero_le _⟩ d_Mo_value_3 ?_
  refine lv_aload_n hx hb d_Mo_value_6 rfl (lv_at hl 0 rfl) ?_
  refine gf_Mo_found F hK hP d_Mo_value_7 ?_
  refine x_Mo_goes F (tt3 230 rfl rfl) ⟨Nat.le_of_ble_eq_true rfl, Nat.le_of_ble_eq_true rfl⟩ hK hP hD hS hA hl.1 (Nat.le_of_ble_eq_true rfl) ⟨Nat.zero_le _, Nat.zero_le _⟩ d_Mo_value_10 (fun H locs hP hD hS => ?_)
  have ew : u3 σ 0 0 0 (mo_g (mo_in x 0 (σ 1 0 0 - 1)) (σ 7 0 0)) = u3 σ 0 0 0 0 := by rw [h1, h2]; simp [mo_g]
  rw [ew] at hP hD
  clear ew
  refine lv_if_ne (tgt := 18) hx hb d_Mo_value_13 (by decide) (fun c1 => ?_) (fun c1 => ?_)
  · refine lv_aload_n hx hb d_Mo_value_18 rfl (lv_at hl 0 rfl) ?_
    refine gf_Mo_best F hK hP d_Mo_value_19 ?_
    refine lv_iload_n hx hb d_Mo_value_22 rfl (lv_at hl 1 rfl) ?_
    refine im_21 (j := j) F hK hP hj (by omega) d_Mo_value_23 ?_
    exact ok_iretM F hr hlk hP hD hS (by rw [u3_c (by decide)]) d_Mo_value_24
  · exact absurd c1 (by rw [h1, h2]; simp [mo_g])
theorem x_Mo_value {σ : oS} {x : Int32} {j : Nat} (hj : x = nI j) (hj9 : j < 5) (h1 : mo_in x 0 (σ 1 0 0 - 1) = 1) (h2 : σ 7 0 0 = 1) (F : CallFix p m c cc nL s args (cw :: tt) own) (hG : Cond.methodLink own index y_Mo_value ∈ tt) (hR : 2 + 1 ≤ R.frames ∧ 8 + (2 + 11) + 43 ≤ R.locals) (hK : va_K D vwCl (mt cI cZ) s) (hP : va_P D vwCl (mw cI cZ ad σ) H) (hD : va_D A (mw cI cZ ad σ)) (hS : va_S A H0 H locs) (hA : ∀ q, H0.size ≤ q → A q) (hsz : ls.size = nL) (hW : (rest.map fun v => v.category).sum ≤ 8) (hcs : cells ≤ R.cells ∧ slots ≤ R.slots) (hdg : decode cc pc = .ok (.invokevirtual index, 3)) (kk : ∀ (H1 : Heap) (locs1 : List Loc), va_P D vwCl (mw cI cZ ad (u3 σ 0 0 0 0)) H1 → va_D A (mw cI cZ ad (u3 σ 0 0 0 0)) → va_S A H0 H1 locs1 → W p l e R s m args below meth c H1 locs1 cells slots Q (F0 m (pc + 3) ls (.int (σ 21 0 j) :: rest))) : W p l e R s m args below meth c H locs cells slots Q (F0 m pc ls (.int x :: .ref (ad 0) :: rest)) :=
  ok_VM (As := [.int x]) F (c_Mo_value σ hj hj9 h1 h2) 1 (tt_V hG i_Mo_value l_Mo_value in9_Mo k_Mo_value) rfl ⟨rfl, rfl⟩ (by decide +kernel) hR hK hP hD hS hA (0) 6 rfl rfl mw_0 rfl hsz rfl hW hcs hdg kk
set_option maxHeartbeats 4000000 in
set_option maxRecDepth 100000 in
theorem c_Mo_value_1 (σ : oS) {x : Int32} (h1 : mo_in x 0 (σ 1 0 0 - 1) = 0) : ok_MM l y_Mo_value (Cond.code y_Mo_value b_Mo_value 2 (some .int) :: tt) { frames := 2, cells := 0, slots := 0, locals := 43 } D vwCl (mt cI cZ) (mw cI cZ ad σ) (mw cI cZ ad (u3 σ 0 0 0 1)) [.ref (ad 0), .int x] (some (.int 0)) := by
  refine ok_startM (cc := b_Mo_value) (own := RMo) (maxL := 2) (ret := (some .int)) (by decide +kernel) rfl rfl (Nat.le_of_ble_eq_true rfl) ?_
  intro p e s m below meth c A F hr hlk hA hP hK hD hS ls hl
  have hl : lv_has ls 2 [(0, .ref (ad 0)), (1, .int x)] := hl
  have hx := F.1
  have hb := F.2.1
  refine lv_aload_n hx hb d_Mo_value_0 rfl (lv_at hl 0 rfl) ?_
  refine lv_aload_n hx hb d_Mo_value_1 rfl (lv_at hl 0 rfl) ?_
  refine lv_iload_n hx hb d_Mo_value_2 rfl (lv_at hl 1 rfl) ?_
  refine x_Mo_isColumn F (tt4 14 rfl rfl) ⟨Nat.le_of_ble_eq_true rfl, Nat.le_of_ble_eq_true rfl⟩ hK hP hl.1 (Nat.le_of_ble_eq_true rfl) ⟨Nat.zero_le _, Nat.zero_le _⟩ d_Mo_value_3 ?_
  refine lv_aload_n hx hb d_Mo_value_6 rfl (lv_at hl 0 rfl) ?_
  refine gf_Mo_found F hK hP d_Mo_value_7 ?_
  refine x_Mo_goes F (tt3 230 rfl rfl) ⟨Nat.le_of_ble_eq_true rfl, Nat.le_of_ble_eq_true rfl⟩ hK hP hD hS hA hl.1 (Nat.le_of_ble_eq_true rfl) ⟨Nat.zero_le _, Nat.zero_le _⟩ d_Mo_value_10 (fun H locs hP hD hS => ?_)
  have ew : u3 σ 0 0 0 (mo_g (mo_in x 0 (σ 1 0 0 - 1)) (σ 7 0 0)) = u3 σ 0 0 0 1 := by rw [h1]; simp [mo_g]
  rw [ew] at hP hD
  clear ew
  refine lv_if_ne (tgt := 18) hx hb d_Mo_value_13 (by decide) (fun c1 => ?_) (fun c1 => ?_)
  · exact absurd (by rw [h1]; simp [mo_g]) c1
  · refine lv_iconst (v := 0) hx hb d_Mo_value_16 (by decide) ?_
    exact ok_iretM F hr hlk hP hD hS (rfl) d_Mo_value_17
theorem x_Mo_value_1 {σ : oS} {x : Int32} (h1 : mo_in x 0 (σ 1 0 0 - 1) = 0) (F : CallFix p m c cc nL s args (cw :: tt) own) (hG : Cond.methodLink own index y_Mo_value ∈ tt) (hR : 2 + 1 ≤ R.frames ∧ 8 + (2 + 11) + 43 ≤ R.locals) (hK : va_K D vwCl (mt cI cZ) s) (hP : va_P D vwCl (mw cI cZ ad σ) H) (hD : va_D A (mw cI cZ ad σ)) (hS : va_S A H0 H locs) (hA : ∀ q, H0.size ≤ q → A q) (hsz : ls.size = nL) (hW : (rest.map fun v => v.category).sum ≤ 8) (hcs : cells ≤ R.cells ∧ slots ≤ R.slots) (hdg : decode cc pc = .ok (.invokevirtual index, 3)) (kk : ∀ (H1 : Heap) (locs1 : List Loc), va_P D vwCl (mw cI cZ ad (u3 σ 0 0 0 1)) H1 → va_D A (mw cI cZ ad (u3 σ 0 0 0 1)) → va_S A H0 H1 locs1 → W p l e R s m args below meth c H1 locs1 cells slots Q (F0 m (pc + 3) ls (.int 0 :: rest))) : W p l e R s m args below meth c H locs cells slots Q (F0 m pc ls (.int x :: .ref (ad 0) :: rest)) :=
  ok_VM (As := [.int x]) F (c_Mo_value_1 σ h1) 1 (tt_V hG i_Mo_value l_Mo_value in9_Mo k_Mo_value) rfl ⟨rfl, rfl⟩ (by decide +kernel) hR hK hP hD hS hA (0) 6 rfl rfl mw_0 rfl hsz rfl hW hcs hdg kk
set_option maxHeartbeats 4000000 in
set_option maxRecDepth 100000 in
theorem c_Mo_value_2 (σ : oS) {x : Int32} (h1 : mo_in x 0 (σ 1 0 0 - 1) = 1) (h2 : σ 7 0 0 = 0) : ok_MM l y_Mo_value (Cond.code y_Mo_value b_Mo_value 2 (some .int) :: tt) { frames := 2, cells := 0, slots := 0, locals := 43 } D vwCl (mt cI cZ) (mw cI cZ ad σ) (mw cI cZ ad (u3 σ 0 0 0 2)) [.ref (ad 0), .int x] (some (.int 0)) := by
  refine ok_startM (cc := b_Mo_value) (own := RMo) (maxL := 2) (ret := (some .int)) (by decide +kernel) rfl rfl (Nat.le_of_ble_eq_true rfl) ?_
  intro p e s m below meth c A F hr hlk hA hP hK hD hS ls hl
  have hl : lv_has ls 2 [(0, .ref (ad 0)), (1, .int x)] := hl
  have hx := F.1
  have hb := F.2.1
  refine lv_aload_n hx hb d_Mo_value_0 rfl (lv_at hl 0 rfl) ?_
  refine lv_aload_n hx hb d_Mo_value_1 rfl (lv_at hl 0 rfl) ?_
  refine lv_iload_n hx hb d_Mo_value_2 rfl (lv_at hl 1 rfl) ?_
  refine x_Mo_isColumn F (tt4 14 rfl rfl) ⟨Nat.le_of_ble_eq_true rfl, Nat.le_of_ble_eq_true rfl⟩ hK hP hl.1 (Nat.le_of_ble_eq_true rfl) ⟨Nat.zero_le _, Nat.zero_le _⟩ d_Mo_value_3 ?_
  refine lv_aload_n hx hb d_Mo_value_6 rfl (lv_at hl 0 rfl) ?_
  refine gf_Mo_found F hK hP d_Mo_value_7 ?_
  refine x_Mo_goes F (tt3 230 rfl rfl) ⟨Nat.le_of_ble_eq_true rfl, Nat.le_of_ble_eq_true rfl⟩ hK hP hD hS hA hl.1 (Nat.le_of_ble_eq_true rfl) ⟨Nat.zero_le _, Nat.zero_le _⟩ d_Mo_value_10 (fun H locs hP hD hS => ?_)
  have ew : u3 σ 0 0 0 (mo_g (mo_in x 0 (σ 1 0 0 - 1)) (σ 7 0 0)) = u3 σ 0 0 0 2 := by rw [h1, h2]; simp [mo_g]
  rw [ew] at hP hD
  clear ew
  refine lv_if_ne (tgt := 18) hx hb d_Mo_value_13 (by decide) (fun c1 => ?_) (fun c1 => ?_)
  · exact absurd (by rw [h1, h2]; simp [mo_g]) c1
  · refine lv_iconst (v := 0) hx hb d_Mo_value_16 (by decide) ?_
    exact ok_iretM F hr hlk hP hD hS (rfl) d_Mo_value_17
theorem x_Mo_value_2 {σ : oS} {x : Int32} (h1 : mo_in x 0 (σ 1 0 0 - 1) = 1) (h2 : σ 7 0 0 = 0) (F : CallFix p m c cc nL s args (cw :: tt) own) (hG : Cond.methodLink own index y_Mo_value ∈ tt) (hR : 2 + 1 ≤ R.frames ∧ 8 + (2 + 11) + 43 ≤ R.locals) (hK : va_K D vwCl (mt cI cZ) s) (hP : va_P D vwCl (mw cI cZ ad σ) H) (hD : va_D A (mw cI cZ ad σ)) (hS : va_S A H0 H locs) (hA : ∀ q, H0.size ≤ q → A q) (hsz : ls.size = nL) (hW : (rest.map fun v => v.category).sum ≤ 8) (hcs : cells ≤ R.cells ∧ slots ≤ R.slots) (hdg : decode cc pc = .ok (.invokevirtual index, 3)) (kk : ∀ (H1 : Heap) (locs1 : List Loc), va_P D vwCl (mw cI cZ ad (u3 σ 0 0 0 2)) H1 → va_D A (mw cI cZ ad (u3 σ 0 0 0 2)) → va_S A H0 H1 locs1 → W p l e R s m args below meth c H1 locs1 cells slots Q (F0 m (pc + 3) ls (.int 0 :: rest))) : W p l e R s m args below meth c H locs cells slots Q (F0 m pc ls (.int x :: .ref (ad 0) :: rest)) :=
  ok_VM (As := [.int x]) F (c_Mo_value_2 σ h1 h2) 1 (tt_V hG i_Mo_value l_Mo_value in9_Mo k_Mo_value) rfl ⟨rfl, rfl⟩ (by decide +kernel) hR hK hP hD hS hA (0) 6 rfl rfl mw_0 rfl hsz rfl hW hcs hdg kk
set_option maxHeartbeats 4000000 in
set_option maxRecDepth 100000 in
theorem c_Mo_multiplier (σ : oS) {r : Nat} {u : Nat} (h_r : σ 2 0 0 = nI r) (h_u : σ 3 0 0 = nI u) (hr4 : r ≤ 4) (hu4 : u ≤ 4) {x : Int32} {k : Nat} (hk : x = nI k) (hk9 : k < 8) (hk8 : k < r + u) {y : Int32} (h1 : mo_in x 0 (σ 2 0 0 + σ 3 0 0 - 1) = 1) (h2 : mo_wv σ r k y = 1) : ok_MM l y_Mo_multiplier (Cond.code y_Mo_multiplier b_Mo_multiplier 4 none :: tt) { frames := 1, cells := 0, slots := 0, locals := 22 } D vwCl (mt cI cZ) (mw cI cZ ad σ) (mw cI cZ ad (u3 (u3 σ 0 0 0 0) 17 0 k y)) [.ref (ad 0), .int x, .int y] none := by
  refine ok_startM (cc := b_Mo_multiplier) (own := RMo) (maxL := 4) (ret := none) (by decide +kernel) rfl rfl (Nat.le_of_ble_eq_true rfl) ?_
  intro p e s m below meth c A F hr hlk hA hP hK hD hS ls hl
  have hl : lv_has ls 4 [(0, .ref (ad 0)), (1, .int x), (2, .int y)] := hl
  have hx := F.1
  have hb := F.2.1
  refine lv_iload_n hx hb d_Mo_multiplier_0 rfl (lv_at hl 1 rfl) ?_
  refine lv_iconst (v := 0) hx hb d_Mo_multiplier_1 (by decide) ?_
  refine lv_aload_n hx hb d_Mo_multiplier_2 rfl (lv_at hl 0 rfl) ?_
  refine gf_Mo_rows F hK hP d_Mo_multiplier_3 ?_
  refine lv_aload_n hx hb d_Mo_multiplier_6 rfl (lv_at hl 0 rfl) ?_
  refine gf_Mo_cuts F hK hP d_Mo_multiplier_7 ?_
  refine lv_iadd hx hb d_Mo_multiplier_10 ?_
  refine lv_iconst (v := 1) hx hb d_Mo_multiplier_11 (by decide) ?_
  refine lv_isub hx hb d_Mo_multiplier_12 ?_
  refine x_Mo_in F (tt3 227 rfl rfl) ⟨Nat.le_of_ble_eq_true rfl, Nat.le_of_ble_eq_true rfl⟩ hK hP hl.1 (Nat.le_of_ble_eq_true rfl) ⟨Nat.zero_le _, Nat.zero_le _⟩ d_Mo_multiplier_13 ?_
  refine lv_istore_n (lv' := [(3, .int (mo_in x 0 (((σ 2 0 0) + (σ 3 0 0)) - 1))), (0, .ref (ad 0)), (1, .int x), (2, .int y)]) hx hb d_Mo_multiplier_16 rfl hl (by decide) rfl (fun ls hl => ?_)
  refine lv_aload_n hx hb d_Mo_multiplier_17 rfl (lv_at hl 1 rfl) ?_
  refine lv_iload_n hx hb d_Mo_multiplier_18 rfl (lv_at hl 0 rfl) ?_
  refine lv_iload_n hx hb d_Mo_multiplier_19 rfl (lv_at hl 0 rfl) ?_
  refine lv_if_eq (tgt := 58) hx hb d_Mo_multiplier_20 (by decide) (fun c1 => ?_) (fun c1 => ?_)
  · exact absurd c1 (by rw [h1]; decide)
  · refine lv_aload_n hx hb d_Mo_multiplier_23 rfl (lv_at hl 1 rfl) ?_
    refine lv_iload_n hx hb d_Mo_multiplier_24 rfl (lv_at hl 2 rfl) ?_
    refine x_Mo_kindOf (r := r) (u := u) h_r h_u hr4 hu4 (k := k) hk (by omega) (by omega) F (tt4 47 rfl rfl) ⟨Nat.le_of_ble_eq_true rfl, Nat.le_of_ble_eq_true rfl⟩ hK hP hl.1 (Nat.le_of_ble_eq_true rfl) ⟨Nat.zero_le _, Nat.zero_le _⟩ d_Mo_multiplier_25 ?_
    refine lv_if_ne (tgt := 44) hx hb d_Mo_multiplier_28 (by decide) (fun c2 => ?_) (fun c2 => ?_)
    · refine lv_iload_n hx hb d_Mo_multiplier_44 rfl (lv_at hl 3 rfl) ?_
      refine lv_ldc (v := -1000000) hx hb F.2.2.2.1 (F.2.2.2.2 (.constant RMo 129 (-1000000)) (List.mem_cons_of_mem _ (tt4 72 rfl rfl))) d_Mo_multiplier_45 ?_
      refine lv_iconst (v := 0) hx hb d_Mo_multiplier_47 (by decide) ?_
      refine x_Mo_in F (tt3 227 rfl rfl) ⟨Nat.le_of_ble_eq_true rfl, Nat.le_of_ble_eq_true rfl⟩ hK hP hl.1 (Nat.le_of_ble_eq_true rfl) ⟨Nat.zero_le _, Nat.zero_le _⟩ d_Mo_multiplier_48 ?_
      refine lv_if_eq (tgt := 58) hx hb d_Mo_multiplier_51 (by decide) (fun c3 => ?_) (fun c3 => ?_)
      · exact absurd h2 (by unfold mo_wv; first | (rw [if_pos c2, c3]; decide) | (rw [if_neg c2, c3]; decide))
      · refine lv_iconst (v := 1) hx hb d_Mo_multiplier_54 (by decide) ?_
        refine lv_goto (tgt := 59) hx hb d_Mo_multiplier_55 (by decide) ?_
        refine x_Mo_goes F (tt3 230 rfl rfl) ⟨Nat.le_of_ble_eq_true rfl, Nat.le_of_ble_eq_true rfl⟩ hK hP hD hS hA hl.1 (Nat.le_of_ble_eq_true rfl) ⟨Nat.zero_le _, Nat.zero_le _⟩ d_Mo_multiplier_59 (fun H locs hP hD hS => ?_)
        have ew : u3 σ 0 0 0 (mo_g (mo_in x 0 (((σ 2 0 0) + (σ 3 0 0)) - 1)) 1) = u3 σ 0 0 0 0 := by rw [h1]; simp [mo_g]
        rw [ew] at hP hD
        clear ew
        refine lv_if_eq (tgt := 72) hx hb d_Mo_multiplier_62 (by decide) (fun c4 => ?_) (fun c4 => ?_)
        · exact absurd c4 (by rw [h1]; simp [mo_g])
        · refine lv_aload_n hx hb d_Mo_multiplier_65 rfl (lv_at hl 1 rfl) ?_
          refine gf_Mo_multiplier F hK hP d_Mo_multiplier_66 ?_
          refine lv_iload_n hx hb d_Mo_multiplier_69 rfl (lv_at hl 2 rfl) ?_
          refine lv_iload_n hx hb d_Mo_multiplier_70 rfl (lv_at hl 3 rfl) ?_
          refine sm_17 (j := k) F hK hP hD hS hk (by omega) d_Mo_multiplier_71 (fun H locs hP hD hS => ?_)
          exact ok_vretM F hr hlk hP hD hS d_Mo_multiplier_72
    · refine lv_iload_n hx hb d_Mo_multiplier_31 rfl (lv_at hl 3 rfl) ?_
      refine lv_iconst (v := 0) hx hb d_Mo_multiplier_32 (by decide) ?_
      refine lv_ldc (v := 1000000) hx hb F.2.2.2.1 (F.2.2.2.2 (.constant RMo 128 (1000000)) (List.mem_cons_of_mem _ (tt4 71 rfl rfl))) d_Mo_multiplier_33 ?_
      refine x_Mo_in F (tt3 227 rfl rfl) ⟨Nat.le_of_ble_eq_true rfl, Nat.le_of_ble_eq_true rfl⟩ hK hP hl.1 (Nat.le_of_ble_eq_true rfl) ⟨Nat.zero_le _, Nat.zero_le _⟩ d_Mo_multiplier_35 ?_
      refine lv_if_eq (tgt := 58) hx hb d_Mo_multiplier_38 (by decide) (fun c5 => ?_) (fun c5 => ?_)
      · exact absurd h2 (by unfold mo_wv; first | (rw [if_pos c2, c5]; decide) | (rw [if_neg c2, c5]; decide))
      · refine lv_goto (tgt := 54) hx hb d_Mo_multiplier_41 (by decide) ?_
        refine lv_iconst (v := 1) hx hb d_Mo_multiplier_54 (by decide) ?_
        refine lv_goto (tgt := 59) hx hb d_Mo_multiplier_55 (by decide) ?_
        refine x_Mo_goes F (tt3 230 rfl rfl) ⟨Nat.le_of_ble_eq_true rfl, Nat.le_of_ble_eq_true rfl⟩ hK hP hD hS hA hl.1 (Nat.le_of_ble_eq_true rfl) ⟨Nat.zero_le _, Nat.zero_le _⟩ d_Mo_multiplier_59 (fun H locs hP hD hS => ?_)
        have ew : u3 σ 0 0 0 (mo_g (mo_in x 0 (((σ 2 0 0) + (σ 3 0 0)) - 1)) 1) = u3 σ 0 0 0 0 := by rw [h1]; simp [mo_g]
        rw [ew] at hP hD
        clear ew
        refine lv_if_eq (tgt := 72) hx hb d_Mo_multiplier_62 (by decide) (fun c6 => ?_) (fun c6 => ?_)
        · exact absurd c6 (by rw [h1]; simp [mo_g])
        · refine lv_aload_n hx hb d_Mo_multiplier_65 rfl (lv_at hl 1 rfl) ?_
          refine gf_Mo_multiplier F hK hP d_Mo_multiplier_66 ?_
          refine lv_iload_n hx hb d_Mo_multiplier_69 rfl (lv_at hl 2 rfl) ?_
          refine lv_iload_n hx hb d_Mo_multiplier_70 rfl (lv_at hl 3 rfl) ?_
          refine sm_17 (j := k) F hK hP hD hS hk (by omega) d_Mo_multiplier_71 (fun H locs hP hD hS => ?_)
          exact ok_vretM F hr hlk hP hD hS d_Mo_multiplier_72
theorem x_Mo_multiplier {σ : oS} {r : Nat} {u : Nat} (h_r : σ 2 0 0 = nI r) (h_u : σ 3 0 0 = nI u) (hr4 : r ≤ 4) (hu4 : u ≤ 4) {x : Int32} {k : Nat} (hk : x = nI k) (hk9 : k < 8) (hk8 : k < r + u) {y : Int32} (h1 : mo_in x 0 (σ 2 0 0 + σ 3 0 0 - 1) = 1) (h2 : mo_wv σ r k y = 1) (F : CallFix p m c cc nL s args (cw :: tt) own) (hG : Cond.methodLink own index y_Mo_multiplier ∈ tt) (hR : 1 + 1 ≤ R.frames ∧ 8 + (4 + 11) + 22 ≤ R.locals) (hK : va_K D vwCl (mt cI cZ) s) (hP : va_P D vwCl (mw cI cZ ad σ) H) (hD : va_D A (mw cI cZ ad σ)) (hS : va_S A H0 H locs) (hA : ∀ q, H0.size ≤ q → A q) (hsz : ls.size = nL) (hW : (rest.map fun v => v.category).sum ≤ 8) (hcs : cells ≤ R.cells ∧ slots ≤ R.slots) (hdg : decode cc pc = .ok (.invokevirtual index, 3)) (kk : ∀ (H1 : Heap) (locs1 : List Loc), va_P D vwCl (mw cI cZ ad (u3 (u3 σ 0 0 0 0) 17 0 k y)) H1 → va_D A (mw cI cZ ad (u3 (u3 σ 0 0 0 0) 17 0 k y)) → va_S A H0 H1 locs1 → W p l e R s m args below meth c H1 locs1 cells slots Q (F0 m (pc + 3) ls (rest))) : W p l e R s m args below meth c H locs cells slots Q (F0 m pc ls (.int y :: .int x :: .ref (ad 0) :: rest)) :=
  ok_VM (As := [.int x, .int y]) F (c_Mo_multiplier σ h_r h_u hr4 hu4 hk hk9 hk8 h1 h2) 2 (tt_V hG i_Mo_multiplier l_Mo_multiplier in9_Mo k_Mo_multiplier) rfl ⟨rfl, rfl⟩ (by decide +kernel) hR hK hP hD hS hA (0) 6 rfl rfl mw_0 rfl hsz rfl hW hcs hdg kk
set_option maxHeartbeats 4000000 in
set_option maxRecDepth 100000 in
theorem c_Mo_multiplier_1 (σ : oS) {x : Int32} {y : Int32} (h1 : mo_in x 0 (σ 2 0 0 + σ 3 0 0 - 1) = 0) : ok_MM l y_Mo_multiplier (Cond.code y_Mo_multiplier b_Mo_multiplier 4 none :: tt) { frames := 1, cells := 0, slots := 0, locals := 22 } D vwCl (mt cI cZ) (mw cI cZ ad σ) (mw cI cZ ad (u3 σ 0 0 0 1)) [.ref (ad 0), .int x, .int y] none := by
  refine ok_startM (cc := b_Mo_multiplier) (own := RMo) (maxL := 4) (ret := none) (by decide +kernel) rfl rfl (Nat.le_of_ble_eq_true rfl) ?_
  intro p e s m below meth c A F hr hlk hA hP hK hD hS ls hl
  have hl : lv_has ls 4 [(0, .ref (ad 0)), (1, .int x), (2, .int y)] := hl
  have hx := F.1
  have hb := F.2.1
  refine lv_iload_n hx hb d_Mo_multiplier_0 rfl (lv_at hl 1 rfl) ?_
  refine lv_iconst (v := 0) hx hb d_Mo_multiplier_1 (by decide) ?_
  refine lv_aload_n hx hb d_Mo_multiplier_2 rfl (lv_at hl 0 rfl) ?_
  refine gf_Mo_rows F hK hP d_Mo_multiplier_3 ?_
  refine lv_aload_n hx hb d_Mo_multiplier_6 rfl (lv_at hl 0 rfl) ?_
  refine gf_Mo_cuts F hK hP d_Mo_multiplier_7 ?_
  refine lv_iadd hx hb d_Mo_multiplier_10 ?_
  refine lv_iconst (v := 1) hx hb d_Mo_multiplier_11 (by decide) ?_
  refine lv_isub hx hb d_Mo_multiplier_12 ?_
  refine x_Mo_in F (tt3 227 rfl rfl) ⟨Nat.le_of_ble_eq_true rfl, Nat.le_of_ble_eq_true rfl⟩ hK hP hl.1 (Nat.le_of_ble_eq_true rfl) ⟨Nat.zero_le _, Nat.zero_le _⟩ d_Mo_multiplier_13 ?_
  refine lv_istore_n (lv' := [(3, .int (mo_in x 0 (((σ 2 0 0) + (σ 3 0 0)) - 1))), (0, .ref (ad 0)), (1, .int x), (2, .int y)]) hx hb d_Mo_multiplier_16 rfl hl (by decide) rfl (fun ls hl => ?_)
  refine lv_aload_n hx hb d_Mo_multiplier_17 rfl (lv_at hl 1 rfl) ?_
  refine lv_iload_n hx hb d_Mo_multiplier_18 rfl (lv_at hl 0 rfl) ?_
  refine lv_iload_n hx hb d_Mo_multiplier_19 rfl (lv_at hl 0 rfl) ?_
  refine lv_if_eq (tgt := 58) hx hb d_Mo_multiplier_20 (by decide) (fun c1 => ?_) (fun c1 => ?_)
  · refine lv_iconst (v := 0) hx hb d_Mo_multiplier_58 (by decide) ?_
    refine x_Mo_goes F (tt3 230 rfl rfl) ⟨Nat.le_of_ble_eq_true rfl, Nat.le_of_ble_eq_true rfl⟩ hK hP hD hS hA hl.1 (Nat.le_of_ble_eq_true rfl) ⟨Nat.zero_le _, Nat.zero_le _⟩ d_Mo_multiplier_59 (fun H locs hP hD hS => ?_)
    have ew : u3 σ 0 0 0 (mo_g (mo_in x 0 (((σ 2 0 0) + (σ 3 0 0)) - 1)) 0) = u3 σ 0 0 0 1 := by rw [h1]; simp [mo_g]
    rw [ew] at hP hD
    clear ew
    refine lv_if_eq (tgt := 72) hx hb d_Mo_multiplier_62 (by decide) (fun c2 => ?_) (fun c2 => ?_)
    · exact ok_vretM F hr hlk hP hD hS d_Mo_multiplier_72
    · exact absurd (by rw [h1]; simp [mo_g]) c2
  · exact absurd h1 c1
theorem x_Mo_multiplier_1 {σ : oS} {x : Int32} {y : Int32} (h1 : mo_in x 0 (σ 2 0 0 + σ 3 0 0 - 1) = 0) (F : CallFix p m c cc nL s args (cw :: tt) own) (hG : Cond.methodLink own index y_Mo_multiplier ∈ tt) (hR : 1 + 1 ≤ R.frames ∧ 8 + (4 + 11) + 22 ≤ R.locals) (hK : va_K D vwCl (mt cI cZ) s) (hP : va_P D vwCl (mw cI cZ ad σ) H) (hD : va_D A (mw cI cZ ad σ)) (hS : va_S A H0 H locs) (hA : ∀ q, H0.size ≤ q → A q) (hsz : ls.size = nL) (hW : (rest.map fun v => v.category).sum ≤ 8) (hcs : cells ≤ R.cells ∧ slots ≤ R.slots) (hdg : decode cc pc = .ok (.invokevirtual index, 3)) (kk : ∀ (H1 : Heap) (locs1 : List Loc), va_P D vwCl (mw cI cZ ad (u3 σ 0 0 0 1)) H1 → va_D A (mw cI cZ ad (u3 σ 0 0 0 1)) → va_S A H0 H1 locs1 → W p l e R s m args below meth c H1 locs1 cells slots Q (F0 m (pc + 3) ls (rest))) : W p l e R s m args below meth c H locs cells slots Q (F0 m pc ls (.int y :: .int x :: .ref (ad 0) :: rest)) :=
  ok_VM (As := [.int x, .int y]) F (c_Mo_multiplier_1 σ h1) 2 (tt_V hG i_Mo_multiplier l_Mo_multiplier in9_Mo k_Mo_multiplier) rfl ⟨rfl, rfl⟩ (by decide +kernel) hR hK hP hD hS hA (0) 6 rfl rfl mw_0 rfl hsz rfl hW hcs hdg kk
set_option maxHeartbeats 4000000 in
set_option maxRecDepth 100000 in
theorem c_Mo_multiplier_2 (σ : oS) {r : Nat} {u : Nat} (h_r : σ 2 0 0 = nI r) (h_u : σ 3 0 0 = nI u) (hr4 : r ≤ 4) (hu4 : u ≤ 4) {x : Int32} {k : Nat} (hk : x = nI k) (hk9 : k < 8) (hk8 : k < r + u) {y : Int32} (h1 : mo_in x 0 (σ 2 0 0 + σ 3 0 0 - 1) = 1) (h2 : mo_wv σ r k y = 0) : ok_MM l y_Mo_multiplier (Cond.code y_Mo_multiplier b_Mo_multiplier 4 none :: tt) { frames := 1, cells := 0, slots := 0, locals := 22 } D vwCl (mt cI cZ) (mw cI cZ ad σ) (mw cI cZ ad (u3 σ 0 0 0 2)) [.ref (ad 0), .int x, .int y] none := by
  refine ok_startM (cc := b_Mo_multiplier) (own := RMo) (maxL := 4) (ret := none) (by decide +kernel) rfl rfl (Nat.le_of_ble_eq_true rfl) ?_
  intro p e s m below meth c A F hr hlk hA hP hK hD hS ls hl
  have hl : lv_has ls 4 [(0, .ref (ad 0)), (1, .int x), (2, .int y)] := hl
  have hx := F.1
  have hb := F.2.1
  refine lv_iload_n hx hb d_Mo_multiplier_0 rfl (lv_at hl 1 rfl) ?_
  refine lv_iconst (v := 0) hx hb d_Mo_multiplier_1 (by decide) ?_
  refine lv_aload_n hx hb d_Mo_multiplier_2 rfl (lv_at hl 0 rfl) ?_
  refine gf_Mo_rows F hK hP d_Mo_multiplier_3 ?_
  refine lv_aload_n hx hb d_Mo_multiplier_6 rfl (lv_at hl 0 rfl) ?_
  refine gf_Mo_cuts F hK hP d_Mo_multiplier_7 ?_
  refine lv_iadd hx hb d_Mo_multiplier_10 ?_
  refine lv_iconst (v := 1) hx hb d_Mo_multiplier_11 (by decide) ?_
  refine lv_isub hx hb d_Mo_multiplier_12 ?_
  refine x_Mo_in F (tt3 227 rfl rfl) ⟨Nat.le_of_ble_eq_true rfl, Nat.le_of_ble_eq_true rfl⟩ hK hP hl.1 (Nat.le_of_ble_eq_true rfl) ⟨Nat.zero_le _, Nat.zero_le _⟩ d_Mo_multiplier_13 ?_
  refine lv_istore_n (lv' := [(3, .int (mo_in x 0 (((σ 2 0 0) + (σ 3 0 0)) - 1))), (0, .ref (ad 0)), (1, .int x), (2, .int y)]) hx hb d_Mo_multiplier_16 rfl hl (by decide) rfl (fun ls hl => ?_)
  refine lv_aload_n hx hb d_Mo_multiplier_17 rfl (lv_at hl 1 rfl) ?_
  refine lv_iload_n hx hb d_Mo_multiplier_18 rfl (lv_at hl 0 rfl) ?_
  refine lv_iload_n hx hb d_Mo_multiplier_19 rfl (lv_at hl 0 rfl) ?_
  refine lv_if_eq (tgt := 58) hx hb d_Mo_multiplier_20 (by decide) (fun c1 => ?_) (fun c1 => ?_)
  · refine lv_iconst (v := 0) hx hb d_Mo_multiplier_58 (by decide) ?_
    refine x_Mo_goes F (tt3 230 rfl rfl) ⟨Nat.le_of_ble_eq_true rfl, Nat.le_of_ble_eq_true rfl⟩ hK hP hD hS hA hl.1 (Nat.le_of_ble_eq_true rfl) ⟨Nat.zero_le _, Nat.zero_le _⟩ d_Mo_multiplier_59 (fun H locs hP hD hS => ?_)
    have ew : u3 σ 0 0 0 (mo_g (mo_in x 0 (((σ 2 0 0) + (σ 3 0 0)) - 1)) 0) = u3 σ 0 0 0 2 := by rw [h1]; simp [mo_g]
    rw [ew] at hP hD
    clear ew
    refine lv_if_eq (tgt := 72) hx hb d_Mo_multiplier_62 (by decide) (fun c2 => ?_) (fun c2 => ?_)
    · exact ok_vretM F hr hlk hP hD hS d_Mo_multiplier_72
    · exact absurd (by rw [h1]; simp [mo_g]) c2
  · refine lv_aload_n hx hb d_Mo_multiplier_23 rfl (lv_at hl 1 rfl) ?_
    refine lv_iload_n hx hb d_Mo_multiplier_24 rfl (lv_at hl 2 rfl) ?_
    refine x_Mo_kindOf (r := r) (u := u) h_r h_u hr4 hu4 (k := k) hk (by omega) (by omega) F (tt4 47 rfl rfl) ⟨Nat.le_of_ble_eq_true rfl, Nat.le_of_ble_eq_true rfl⟩ hK hP hl.1 (Nat.le_of_ble_eq_true rfl) ⟨Nat.zero_le _, Nat.zero_le _⟩ d_Mo_multiplier_25 ?_
    refine lv_if_ne (tgt := 44) hx hb d_Mo_multiplier_28 (by decide) (fun c3 => ?_) (fun c3 => ?_)
    · refine lv_iload_n hx hb d_Mo_multiplier_44 rfl (lv_at hl 3 rfl) ?_
      refine lv_ldc (v := -1000000) hx hb F.2.2.2.1 (F.2.2.2.2 (.constant RMo 129 (-1000000)) (List.mem_cons_of_mem _ (tt4 72 rfl rfl))) d_Mo_multiplier_45 ?_
      refine lv_iconst (v := 0) hx hb d_Mo_multiplier_47 (by decide) ?_
      refine x_Mo_in F (tt3 227 rfl rfl) ⟨Nat.le_of_ble_eq_true rfl, Nat.le_of_ble_eq_true rfl⟩ hK hP hl.1 (Nat.le_of_ble_eq_true rfl) ⟨Nat.zero_le _, Nat.zero_le _⟩ d_Mo_multiplier_48 ?_
      refine lv_if_eq (tgt := 58) hx hb d_Mo_multiplier_51 (by decide) (fun c4 => ?_) (fun c4 => ?_)
      · refine lv_iconst (v := 0) hx hb d_Mo_multiplier_58 (by decide) ?_
        refine x_Mo_goes F (tt3 230 rfl rfl) ⟨Nat.le_of_ble_eq_true rfl, Nat.le_of_ble_eq_true rfl⟩ hK hP hD hS hA hl.1 (Nat.le_of_ble_eq_true rfl) ⟨Nat.zero_le _, Nat.zero_le _⟩ d_Mo_multiplier_59 (fun H locs hP hD hS => ?_)
        have ew : u3 σ 0 0 0 (mo_g (mo_in x 0 (((σ 2 0 0) + (σ 3 0 0)) - 1)) 0) = u3 σ 0 0 0 2 := by rw [h1]; simp [mo_g]
        rw [ew] at hP hD
        clear ew
        refine lv_if_eq (tgt := 72) hx hb d_Mo_multiplier_62 (by decide) (fun c5 => ?_) (fun c5 => ?_)
        · exact ok_vretM F hr hlk hP hD hS d_Mo_multiplier_72
        · exact absurd (by rw [h1]; simp [mo_g]) c5
      · exact absurd h2 (by unfold mo_wv; first | (rw [if_pos c3]; exact c4) | (rw [if_neg c3]; exact c4))
    · refine lv_iload_n hx hb d_Mo_multiplier_31 rfl (lv_at hl 3 rfl) ?_
      refine lv_iconst (v := 0) hx hb d_Mo_multiplier_32 (by decide) ?_
      refine lv_ldc (v := 1000000) hx hb F.2.2.2.1 (F.2.2.2.2 (.constant RMo 128 (1000000)) (List.mem_cons_of_mem _ (tt4 71 rfl rfl))) d_Mo_multiplier_33 ?_
      refine x_Mo_in F (tt3 227 rfl rfl) ⟨Nat.le_of_ble_eq_true rfl, Nat.le_of_ble_eq_true rfl⟩ hK hP hl.1 (Nat.le_of_ble_eq_true rfl) ⟨Nat.zero_le _, Nat.zero_le _⟩ d_Mo_multiplier_35 ?_
      refine lv_if_eq (tgt := 58) hx hb d_Mo_multiplier_38 (by decide) (fun c6 => ?_) (fun c6 => ?_)
      · refine lv_iconst (v := 0) hx hb d_Mo_multiplier_58 (by decide) ?_
        refine x_Mo_goes F (tt3 230 rfl rfl) ⟨Nat.le_of_ble_eq_true rfl, Nat.le_of_ble_eq_true rfl⟩ hK hP hD hS hA hl.1 (Nat.le_of_ble_eq_true rfl) ⟨Nat.zero_le _, Nat.zero_le _⟩ d_Mo_multiplier_59 (fun H locs hP hD hS => ?_)
        have ew : u3 σ 0 0 0 (mo_g (mo_in x 0 (((σ 2 0 0) + (σ 3 0 0)) - 1)) 0) = u3 σ 0 0 0 2 := by rw [h1]; simp [mo_g]
        rw [ew] at hP hD
        clear ew
        refine lv_if_eq (tgt := 72) hx hb d_Mo_multiplier_62 (by decide) (fun c7 => ?_) (fun c7 => ?_)
        · exact ok_vretM F hr hlk hP hD hS d_Mo_multiplier_72
        · exact absurd (by rw [h1]; simp [mo_g]) c7
      · refine lv_goto (tgt := 54) hx hb d_Mo_multiplier_41 (by decide) ?_
        exact absurd h2 (by unfold mo_wv; first | (rw [if_pos c3]; exact c6) | (rw [if_neg c3]; exact c6))
theorem x_Mo_multiplier_2 {σ : oS} {r : Nat} {u : Nat} (h_r : σ 2 0 0 = nI r) (h_u : σ 3 0 0 = nI u) (hr4 : r ≤ 4) (hu4 : u ≤ 4) {x : Int32} {k : Nat} (hk : x = nI k) (hk9 : k < 8) (hk8 : k < r + u) {y : Int32} (h1 : mo_in x 0 (σ 2 0 0 + σ 3 0 0 - 1) = 1) (h2 : mo_wv σ r k y = 0) (F : CallFix p m c cc nL s args (cw :: tt) own) (hG : Cond.methodLink own index y_Mo_multiplier ∈ tt) (hR : 1 + 1 ≤ R.frames ∧ 8 + (4 + 11) + 22 ≤ R.locals) (hK : va_K D vwCl (mt cI cZ) s) (hP : va_P D vwCl (mw cI cZ ad σ) H) (hD : va_D A (mw cI cZ ad σ)) (hS : va_S A H0 H locs) (hA : ∀ q, H0.size ≤ q → A q) (hsz : ls.size = nL) (hW : (rest.map fun v => v.category).sum ≤ 8) (hcs : cells ≤ R.cells ∧ slots ≤ R.slots) (hdg : decode cc pc = .ok (.invokevirtual index, 3)) (kk : ∀ (H1 : Heap) (locs1 : List Loc), va_P D vwCl (mw cI cZ ad (u3 σ 0 0 0 2)) H1 → va_D A (mw cI cZ ad (u3 σ 0 0 0 2)) → va_S A H0 H1 locs1 → W p l e R s m args below meth c H1 locs1 cells slots Q (F0 m (pc + 3) ls (rest))) : W p l e R s m args below meth c H locs cells slots Q (F0 m pc ls (.int y :: .int x :: .ref (ad 0) :: rest)) :=
  ok_VM (As := [.int x, .int y]) F (c_Mo_multiplier_2 σ h_r h_u hr4 hu4 hk hk9 hk8 h1 h2) 2 (tt_V hG i_Mo_multiplier l_Mo_multiplier in9_Mo k_Mo_multiplier) rfl ⟨rfl, rfl⟩ (by decide +kernel) hR hK hP hD hS hA (0) 6 rfl rfl mw_0 rfl hsz rfl hW hcs hdg kk
end
