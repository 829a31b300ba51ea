-- the lines by their numbers: r rows, then cuts
def ls_i (r k : Nat) : Nat := if k < r then k else (k - r) + 4
theorem ls_i_lt {r c k : Nat} (hr : r ≤ 4) (hc : c ≤ 4) (h : k < r + c) : ls_i r k < 8 := by
  unfold ls_i; split <;> omega
/-- weights of the first m lines are 0 -/
def ls_z (σ : oS) (r : Nat) : Nat → oS
  | 0 => σ
  | m + 1 => u3 (ls_z σ r m) 6 (ls_i r m) 0 0
theorem ls_z_c {σ : oS} {r m c : Nat} (h : c ≠ 6) : ls_z σ r m c = σ c := by
  induction m with
  | zero => rfl
  | succ m ih => rw [ls_z, u3_c h, ih]
def ls_hc (σ : oS) (a b : Nat) : Nat → Bool
  | 0 => false
  | k + 1 => ls_hc σ a b k || (σ 3 (k + 4) a == 1 && σ 3 (k + 4) b == 1)
theorem ls_hc_mono {σ : oS} {a b k m : Nat} (h : k ≤ m) (hk : ls_hc σ a b k = true) : ls_hc σ a b m = true := by
  induction m with
  | zero => rw [show k = 0 by omega] at hk; exact hk
  | succ m ih =>
    by_cases q : k = m + 1
    · rw [← q]; exact hk
    · rw [ls_hc, ih (by omega)]; rfl
def ls_wr (σ : oS) (r : Nat) : Nat → Int64
  | 0 => 0
  | k + 1 => ls_wr σ r k + Int32.toInt64 (σ 6 (ls_i r k) 0) * Int32.toInt64 (σ 5 (ls_i r k) 0)
def ls_wf (σ : oS) (r j : Nat) : Nat → Int64
  | 0 => 0
  | k + 1 => ls_wf σ r j k + Int32.toInt64 (σ 6 (ls_i r k) 0) * Int32.toInt64 (σ 3 (ls_i r k) j)
/-- beginSums of the first m lines -/
def ls_b (σ : oS) (r n : Nat) : Nat → oS
  | 0 => σ
  | m + 1 => u3 (li_b (ls_b σ r n m) (ls_i r m) n 0) 7 (ls_i r m) 0 0
theorem ls_b_c {σ : oS} {r n m c : Nat} (h7 : c ≠ 7) (h8 : c ≠ 8) : ls_b σ r n m c = σ c := by
  induction m with
  | zero => rfl
  | succ m ih =>
    rw [ls_b, u3_c h7, li_b]
    funext i9
    rw [uA_n (fun q => h8 q.1), ih]
/-- stillHold from the line k on, f lines -/
def ls_t (τ : oS) (i j : Nat) (y : Int32) : oS := u3 τ 7 i (j + 1) (τ 7 i j + τ 3 i j * y)
def ls_v (τ : oS) (i j : Nat) (y : Int32) : Int32 := li_h τ i (τ 7 i j + τ 3 i j * y + τ 8 i (j + 1))
def ls_x (r j : Nat) (y : Int32) : Nat → Nat → oS → oS × Int32
  | 0, _, τ => (τ, 1)
  | f + 1, k, τ => if ls_v τ (ls_i r k) j y = 0 then (ls_t τ (ls_i r k) j y, 0) else ls_x r j y f (k + 1) (ls_t τ (ls_i r k) j y)
theorem ls_t_c {τ : oS} {i j c : Nat} {y : Int32} (h : c ≠ 7) : ls_t τ i j y c = τ c := u3_c h
/-- the lines hold of 0 -/
def ls_0 (σ : oS) (r : Nat) : Nat → Bool
  | 0 => true
  | k + 1 => ls_0 σ r k && (li_h σ (ls_i r k) 0 == 1)
theorem ls_0_mono {σ : oS} {r k m : Nat} (h : k ≤ m) (hk : ls_0 σ r k = false) : ls_0 σ r m = false := by
  induction m with
  | zero => rw [show k = 0 by omega] at hk; exact hk
  | succ m ih =>
    by_cases q : k = m + 1
    · rw [← q]; exact hk
    · rw [ls_0, ih (by omega)]; rfl
theorem li_h_1 {σ : oS} {i : Nat} {x : Int32} (h : ¬ li_h σ i x = 0) : li_h σ i x = 1 := by
  unfold li_h at h ⊢
  split <;> split <;> simp_all
theorem ls_cnt {σ : oS} {r u : Nat} (h_r : σ 9 0 0 = nI r) (h_u : σ 10 0 0 = nI u) : σ 9 0 0 + σ 10 0 0 = nI (r + u) := by rw [h_r, h_u, nI_add]
section
variable {l : Launch} {D : va_G} {cI cL : ClassId} {ad : Nat → Nat}
variable {p : Program} {e : Env} {R : Room} {s : State} {m : MethodId} {args : Array Value} {below : List Frame} {meth : Method} {c : Code} {H : Heap} {locs : List Loc} {cells slots : Nat} {Q : State → Prop} {cc : ByteArray} {pc nL index : Nat} {ls : Array Slot} {rest : List Value} {A : Nat → Prop} {H0 : Heap} {cw : Cond} {own : String}
set_option maxHeartbeats 4000000 in
set_option maxRecDepth 100000 in
theorem c_Ls_rowCount (σ : oS) : ok_MR l y_Ls_rowCount (Cond.code y_Ls_rowCount b_Ls_rowCount 1 (some .int) :: tt) { frames := 0, cells := 0, slots := 0, locals := 0 } D vwCl (ot cI cL) (ow cI cL ad σ) [.ref (ad 4)] (some (.int (σ 9 0 0))) := by
  refine ok_startR (cc := b_Ls_rowCount) (own := RLs) (maxL := 1) (ret := (some .int)) (by decide +kernel) rfl rfl (Nat.le_of_ble_eq_true rfl) ?_
  intro p e s m below meth c F hr hlk hP hK ls hl
  have hl : lv_has ls 1 [(0, .ref (ad 4))] := hl
  have hx := F.1
  have hb := F.2.1
  refine lv_aload_n hx hb d_Ls_rowCount_0 rfl (lv_at hl 0 rfl) ?_
  refine gf_Ls_rowCount F hK hP d_Ls_rowCount_1 ?_
  exact ok_iretR F hr hlk (rfl) d_Ls_rowCount_4
theorem x_Ls_rowCount {σ : oS} (F : CallFix p m c cc nL s args (cw :: tt) own) (hG : Cond.methodLink own index y_Ls_rowCount ∈ tt) (hR : 0 + 1 ≤ R.frames ∧ 8 + (1 + 11) + 0 ≤ R.locals) (hK : va_K D vwCl (ot cI cL) s) (hP : va_P D vwCl (ow cI cL ad σ) H) (hsz : ls.size = nL) (hW : (rest.map fun v => v.category).sum ≤ 8) (hcs : cells ≤ R.cells ∧ slots ≤ R.slots) (hdg : decode cc pc = .ok (.invokevirtual index, 3)) (kk : W p l e R s m args below meth c H locs cells slots Q (F0 m (pc + 3) ls (.int (σ 9 0 0) :: rest))) : W p l e R s m args below meth c H locs cells slots Q (F0 m pc ls (.ref (ad 4) :: rest)) :=
  ok_VR (As := []) F (c_Ls_rowCount σ) 0 (tt_V hG i_Ls_rowCount l_Ls_rowCount in9_Ls k_Ls_rowCount) rfl ⟨rfl, rfl⟩ (by decide +kernel) hR hK hP (4) 2 rfl rfl ow_4 rfl hsz rfl hW hcs hdg kk
set_option maxHeartbeats 4000000 in
set_option maxRecDepth 100000 in
theorem c_Ls_cutCount (σ : oS) : ok_MR l y_Ls_cutCount (Cond.code y_Ls_cutCount b_Ls_cutCount 1 (some .int) :: tt) { frames := 0, cells := 0, slots := 0, locals := 0 } D vwCl (ot cI cL) (ow cI cL ad σ) [.ref (ad 4)] (some (.int (σ 10 0 0))) := by
  refine ok_startR (cc := b_Ls_cutCount) (own := RLs) (maxL := 1) (ret := (some .int)) (by decide +kernel) rfl rfl (Nat.le_of_ble_eq_true rfl) ?_
  intro p e s m below meth c F hr hlk hP hK ls hl
  have hl : lv_has ls 1 [(0, .ref (ad 4))] := hl
  have hx := F.1
  have hb := F.2.1
  refine lv_aload_n hx hb d_Ls_cutCount_0 rfl (lv_at hl 0 rfl) ?_
  refine gf_Ls_cutCount F hK hP d_Ls_cutCount_1 ?_
  exact ok_iretR F hr hlk (rfl) d_Ls_cutCount_4
theorem x_Ls_cutCount {σ : oS} (F : CallFix p m c cc nL s args (cw :: tt) own) (hG : Cond.methodLink own index y_Ls_cutCount ∈ tt) (hR : 0 + 1 ≤ R.frames ∧ 8 + (1 + 11) + 0 ≤ R.locals) (hK : va_K D vwCl (ot cI cL) s) (hP : va_P D vwCl (ow cI cL ad σ) H) (hsz : ls.size = nL) (hW : (rest.map fun v => v.category).sum ≤ 8) (hcs : cells ≤ R.cells ∧ slots ≤ R.slots) (hdg : decode cc pc = .ok (.invokevirtual index, 3)) (kk : W p l e R s m args below meth c H locs cells slots Q (F0 m (pc + 3) ls (.int (σ 10 0 0) :: rest))) : W p l e R s m args below meth c H locs cells slots Q (F0 m pc ls (.ref (ad 4) :: rest)) :=
  ok_VR (As := []) F (c_Ls_cutCount σ) 0 (tt_V hG i_Ls_cutCount l_Ls_cutCount in9_Ls k_Ls_cutCount) rfl ⟨rfl, rfl⟩ (by decide +kernel) hR hK hP (4) 2 rfl rfl ow_4 rfl hsz rfl hW hcs hdg kk
set_option maxHeartbeats 4000000 in
set_option maxRecDepth 100000 in
theorem c_Ls_count (σ : oS) : ok_MR l y_Ls_count (Cond.code y_Ls_count b_Ls_count 1 (some .int) :: tt) { frames := 0, cells := 0, slots := 0, locals := 0 } D vwCl (ot cI cL) (ow cI cL ad σ) [.ref (ad 4)] (some (.int (σ 9 0 0 + σ 10 0 0))) := by
  refine ok_startR (cc := b_Ls_count) (own := RLs) (maxL := 1) (ret := (some .int)) (by decide +kernel) rfl rfl (Nat.le_of_ble_eq_true rfl) ?_
  intro p e s m below meth c F hr hlk hP hK ls hl
  have hl : lv_has ls 1 [(0, .ref (ad 4))] := hl
  have hx := F.1
  have hb := F.2.1
  refine lv_aload_n hx hb d_Ls_count_0 rfl (lv_at hl 0 rfl) ?_
  refine gf_Ls_rowCount F hK hP d_Ls_count_1 ?_
  refine lv_aload_n hx hb d_Ls_count_4 rfl (lv_at hl 0 rfl) ?_
  refine gf_Ls_cutCount F hK hP d_Ls_count_5 ?_
  refine lv_iadd hx hb d_Ls_count_8 ?_
  exact ok_iretR F hr hlk (rfl) d_Ls_count_9
theorem x_Ls_count {σ : oS} (F : CallFix p m c cc nL s args (cw :: tt) own) (hG : Cond.methodLink own index y_Ls_count ∈ tt) (hR : 0 + 1 ≤ R.frames ∧ 8 + (1 + 11) + 0 ≤ R.locals) (hK : va_K D vwCl (ot cI cL) s) (hP : va_P D vwCl (ow cI cL ad σ) H) (hsz : ls.size = nL) (hW : (rest.map fun v => v.category).sum ≤ 8) (hcs : cells ≤ R.cells ∧ slots ≤ R.slots) (hdg : decode cc pc = .ok (.invokevirtual index, 3)) (kk : W p l e R s m args below meth c H locs cells slots Q (F0 m (pc + 3) ls (.int (σ 9 0 0 + σ 10 0 0) :: rest))) : W p l e R s m args below meth c H locs cells slots Q (F0 m pc ls (.ref (ad 4) :: rest)) :=
  ok_VR (As := []) F (c_Ls_count σ) 0 (tt_V hG i_Ls_count l_Ls_count in9_Ls k_Ls_count) rfl ⟨rfl, rfl⟩ (by decide +kernel) hR hK hP (4) 2 rfl rfl ow_4 rfl hsz rfl hW hcs hdg kk
set_option maxHeartbeats 4000000 in
set_option maxRecDepth 100000 in
theorem c_Ls_at (σ : oS) {r : Nat} {u : Nat} (h_r : σ 9 0 0 = nI r) (h_u : σ 10 0 0 = nI u) (hr4 : r ≤ 4) (hu4 : u ≤ 4) {x : Int32} {k : Nat} (hk : x = nI k) (hk9 : k < 8) (hk8 : k < r + u) : ok_MR l y_Ls_at (Cond.code y_Ls_at b_Ls_at 2 (some (.object "OrderBounds$Line")) :: tt) { frames := 0, cells := 0, slots := 0, locals := 0 } D vwCl (ot cI cL) (ow cI cL ad σ) [.ref (ad 4), .int x] (some (.ref (ad (4 * ls_i r k + 14)))) := by
  refine ok_startR (cc := b_Ls_at) (own := RLs) (maxL := 2) (ret := (some (.object "OrderBounds$Line"))) (by decide +kernel) rfl rfl (Nat.le_of_ble_eq_true rfl) ?_
  intro p e s m below meth c F hr hlk hP hK ls hl
  have hl : lv_has ls 2 [(0, .ref (ad 4)), (1, .int x)] := hl
  have hx := F.1
  have hb := F.2.1
  refine lv_iload_n hx hb d_Ls_at_0 rfl (lv_at hl 1 rfl) ?_
  refine lv_aload_n hx hb d_Ls_at_1 rfl (lv_at hl 0 rfl) ?_
  refine gf_Ls_rowCount F hK hP d_Ls_at_2 ?_
  refine lv_icmp_ge (tgt := 17) hx hb d_Ls_at_5 (by decide) (fun c1 => ?_) (fun c1 => ?_)
  · have hlt : r ≤ k := by
      rw [h_r, hk, nI_leI (by omega) (by omega)] at c1; omega
    refine lv_aload_n hx hb d_Ls_at_17 rfl (lv_at hl 0 rfl) ?_
    refine gf_Ls_cuts F hK hP d_Ls_at_18 ?_
    refine lv_iload_n hx hb d_Ls_at_21 rfl (lv_at hl 1 rfl) ?_
    refine lv_aload_n hx hb d_Ls_at_22 rfl (lv_at hl 0 rfl) ?_
    refine gf_Ls_rowCount F hK hP d_Ls_at_23 ?_
    refine lv_isub hx hb d_Ls_at_26 ?_
    refine ok_aald F hK hP 6 1 ow_6 rfl (j := (k - r)) (by rw [hk, h_r]; exact pk_sub (by omega)) (by omega) (by decide) rfl d_Ls_at_27 ?_
    exact ok_aretR F hr hlk (by first | rw [ls_i, if_pos hlt] | rw [ls_i, if_neg (by omega)]) d_Ls_at_28
  · have hlt : k < r := by
      rw [h_r, hk, nI_leI (by omega) (by omega)] at c1; omega
    refine lv_aload_n hx hb d_Ls_at_8 rfl (lv_at hl 0 rfl) ?_
    refine gf_Ls_rows F hK hP d_Ls_at_9 ?_
    refine lv_iload_n hx hb d_Ls_at_12 rfl (lv_at hl 1 rfl) ?_
    refine ok_aald F hK hP 5 1 ow_5 rfl (j := k) hk (by omega) (by decide) rfl d_Ls_at_13 ?_
    refine lv_goto (tgt := 28) hx hb d_Ls_at_14 (by decide) ?_
    exact ok_aretR F hr hlk (by first | rw [ls_i, if_pos hlt] | rw [ls_i, if_neg (by omega)]) d_Ls_at_28
theorem x_Ls_at {σ : oS} {r : Nat} {u : Nat} (h_r : σ 9 0 0 = nI r) (h_u : σ 10 0 0 = nI u) (hr4 : r ≤ 4) (hu4 : u ≤ 4) {x : Int32} {k : Nat} (hk : x = nI k) (hk9 : k < 8) (hk8 : k < r + u) (F : CallFix p m c cc nL s args (cw :: tt) own) (hG : Cond.methodLink own index y_Ls_at ∈ tt) (hR : 0 + 1 ≤ R.frames ∧ 8 + (2 + 11) + 0 ≤ R.locals) (hK : va_K D vwCl (ot cI cL) s) (hP : va_P D vwCl (ow cI cL ad σ) H) (hsz : ls.size = nL) (hW : (rest.map fun v => v.category).sum ≤ 8) (hcs : cells ≤ R.cells ∧ slots ≤ R.slots) (hdg : decode cc pc = .ok (.invokevirtual index, 3)) (kk : W p l e R s m args below meth c H locs cells slots Q (F0 m (pc + 3) ls (.ref (ad (4 * ls_i r k + 14)) :: rest))) : W p l e R s m args below meth c H locs cells slots Q (F0 m pc ls (.int x :: .ref (ad 4) :: rest)) :=
  ok_VR (As := [.int x]) F (c_Ls_at σ h_r h_u hr4 hu4 hk hk9 hk8) 1 (tt_V hG i_Ls_at l_Ls_at in9_Ls k_Ls_at) rfl ⟨rfl, rfl⟩ (by decide +kernel) hR hK hP (4) 2 rfl rfl ow_4 rfl hsz rfl hW hcs hdg kk
set_option maxHeartbeats 4000000 in
set_option maxRecDepth 100000 in
theorem c_Ls_hasCut (σ : oS) {r : Nat} {u : Nat} (h_r : σ 9 0 0 = nI r) (h_u : σ 10 0 0 = nI u) (hr4 : r ≤ 4) (hu4 : u ≤ 4) {x : Int32} {j : Nat} (hj : x = nI j) (hj9 : j < 5) {y : Int32} {t : Nat} (ht : y = nI t) (ht9 : t < 5) : ok_MR l y_Ls_hasCut (Cond.code y_Ls_hasCut b_Ls_hasCut 4 (some .boolean) :: tt) { frames := 1, cells := 0, slots := 0, locals := 21 } D vwCl (ot cI cL) (ow cI cL ad σ) [.ref (ad 4), .int x, .int y] (some (.int (if ls_hc σ j t u = true then 1 else 0))) := by
  refine ok_startR (cc := b_Ls_hasCut) (own := RLs) (maxL := 4) (ret := (some .boolean)) (by decide +kernel) rfl rfl (Nat.le_of_ble_eq_true rfl) ?_
  intro p e s m below meth c F hr hlk hP hK ls hl
  have hl : lv_has ls 4 [(0, .ref (ad 4)), (1, .int x), (2, .int y)] := hl
  have hx := F.1
  have hb := F.2.1
  have lp : ∀ (f k : Nat), k ≤ u → u - k < f → ls_hc σ j t k = false → ∀ ls : Array Slot, lv_has ls 4 [(3, .int (nI k)), (0, .ref (ad 4)), (1, .int x), (2, .int y)] → W p l e { frames := 1, cells := 0, slots := 0, locals := 21 } s m ([.ref (ad 4), .int x, .int y] : List Value).toArray below meth c s.heap [] 0 0 (MQ below (ok_R (some (.int (if ls_hc σ j t u = true then 1 else 0)))) ([.ref (ad 4), .int x, .int y] : List Value).toArray s 0 0 (fun _ => False)) (F0 m 2 ls []) := by
    intro f
    induction f with
    | zero => intro k h1 h2; omega
    | succ f ih =>
      intro k h1 h2 hin ls hl
      refine lv_iload_n hx hb d_Ls_hasCut_2 rfl (lv_at hl 0 rfl) ?_
      refine lv_aload_n hx hb d_Ls_hasCut_3 rfl (lv_at hl 1 rfl) ?_
      refine gf_Ls_cutCount F hK hP d_Ls_hasCut_4 ?_
      refine lv_icmp_ge (tgt := 46) hx hb d_Ls_hasCut_7 (by decide) (fun c1 => ?_) (fun c1 => ?_)
      · have hkn : u = k := by
          rw [h_u, nI_leI (by omega) (by omega)] at c1; omega
        subst hkn
        refine lv_iconst (v := 0) hx hb d_Ls_hasCut_46 (by decide) ?_
        exact ok_zretR F hr hlk (rfl) (by rw [if_neg (by rw [hin]; decide)]) d_Ls_hasCut_47
      · have hkn : k < u := by
          rw [h_u, nI_leI (by omega) (by omega)] at c1; omega
        refine lv_aload_n hx hb d_Ls_hasCut_10 rfl (lv_at hl 1 rfl) ?_
        refine gf_Ls_cuts F hK hP d_Ls_hasCut_11 ?_
        refine lv_iload_n hx hb d_Ls_hasCut_14 rfl (lv_at hl 0 rfl) ?_
        refine ok_aald F hK hP 6 1 ow_6 rfl (j := k) rfl (by omega) (by decide) rfl d_Ls_hasCut_15 ?_
        refine lv_iload_n hx hb d_Ls_hasCut_16 rfl (lv_at hl 2 rfl) ?_
        refine x_Li_factorOf (i := (k + 4)) (by omega) (j := j) hj (by omega) F (tt1 187 rfl rfl) ⟨Nat.le_of_ble_eq_true rfl, Nat.le_of_ble_eq_true rfl⟩ hK hP hl.1 (Nat.le_of_ble_eq_true rfl) ⟨Nat.zero_le _, Nat.zero_le _⟩ d_Ls_hasCut_17 ?_
        refine lv_iconst (v := 1) hx hb d_Ls_hasCut_20 (by decide) ?_
        refine lv_icmp_ne (tgt := 40) hx hb d_Ls_hasCut_21 (by decide) (fun c2 => ?_) (fun c2 => ?_)
        · refine lv_iinc (v := nI (k + 1)) (lv' := [(3, .int (nI (k + 1))), (0, .ref (ad 4)), (1, .int x), (2, .int y)]) hx hb d_Ls_hasCut_40 hl (k := 0) rfl (nI_inc _) (by decide) rfl (fun ls hl => ?_)
          refine lv_goto (tgt := 2) hx hb d_Ls_hasCut_43 (by decide) ?_
          exact ih (k + 1) (by omega) (by omega) (by rw [ls_hc, hin]; first | simp [c2, c3] | simp [c2]) ls (lv_sub hl [0, 1, 2, 3] rfl)
        · refine lv_aload_n hx hb d_Ls_hasCut_24 rfl (lv_at hl 1 rfl) ?_
          refine gf_Ls_cuts F hK hP d_Ls_hasCut_25 ?_
          refine lv_iload_n hx hb d_Ls_hasCut_28 rfl (lv_at hl 0 rfl) ?_
          refine ok_aald F hK hP 6 1 ow_6 rfl (j := k) rfl (by omega) (by decide) rfl d_Ls_hasCut_29 ?_
          refine lv_iload_n hx hb d_Ls_hasCut_30 rfl (lv_at hl 3 rfl) ?_
          refine x_Li_factorOf (i := (k + 4)) (by omega) (j := t) ht (by omega) F (tt1 187 rfl rfl) ⟨Nat.le_of_ble_eq_true rfl, Nat.le_of_ble_eq_true rfl⟩ hK hP hl.1 (Nat.le_of_ble_eq_true rfl) ⟨Nat.zero_le _, Nat.zero_le _⟩ d_Ls_hasCut_31 ?_
          refine lv_iconst (v := 1) hx hb d_Ls_hasCut_34 (by decide) ?_
          refine lv_icmp_ne (tgt := 40) hx hb d_Ls_hasCut_35 (by decide) (fun c3 => ?_) (fun c3 => ?_)
          · refine lv_iinc (v := nI (k + 1)) (lv' := [(3, .int (nI (k + 1))), (0, .ref (ad 4)), (1, .int x), (2, .int y)]) hx hb d_Ls_hasCut_40 hl (k := 0) rfl (nI_inc _) (by decide) rfl (fun ls hl => ?_)
            refine lv_goto (tgt := 2) hx hb d_Ls_hasCut_43 (by decide) ?_
            exact ih (k + 1) (by omega) (by omega) (by rw [ls_hc, hin]; first | simp [c2, c3] | simp [c2]) ls (lv_sub hl [0, 1, 2, 3] rfl)
          · refine lv_iconst (v := 1) hx hb d_Ls_hasCut_38 (by decide) ?_
            exact ok_zretR F hr hlk (rfl) (by rw [if_pos (ls_hc_mono (k := k + 1) (by omega) (by simp [ls_hc, c2, c3]))]) d_Ls_hasCut_39
  refine lv_iconst (v := 0) hx hb d_Ls_hasCut_0 (by decide) ?_
  refine lv_istore_n (lv' := [(3, .int 0), (0, .ref (ad 4)), (1, .int x), (2, .int y)]) hx hb d_Ls_hasCut_1 rfl hl (by decide) rfl (fun ls hl => ?_)
  exact lp (u + 1) 0 (by omega) (by omega) (rfl) ls (lv_sub hl [0, 1, 2, 3] rfl)
theorem x_Ls_hasCut {σ : oS} {r : Nat} {u : Nat} (h_r : σ 9 0 0 = nI r) (h_u : σ 10 0 0 = nI u) (hr4 : r ≤ 4) (hu4 : u ≤ 4) {x : Int32} {j : Nat} (hj : x = nI j) (hj9 : j < 5) {y : Int32} {t : Nat} (ht : y = nI t) (ht9 : t < 5) (F : CallFix p m c cc nL s args (cw :: tt) own) (hG : Cond.methodLink own index y_Ls_hasCut ∈ tt) (hR : 1 + 1 ≤ R.frames ∧ 8 + (4 + 11) + 21 ≤ R.locals) (hK : va_K D vwCl (ot cI cL) s) (hP : va_P D vwCl (ow cI cL ad σ) H) (hsz : ls.size = nL) (hW : (rest.map fun v => v.category).sum ≤ 8) (hcs : cells ≤ R.cells ∧ slots ≤ R.slots) (hdg : decode cc pc = .ok (.invokevirtual index, 3)) (kk : W p l e R s m args below meth c H locs cells slots Q (F0 m (pc + 3) ls (.int (if ls_hc σ j t u = true then 1 else 0) :: rest))) : W p l e R s m args below meth c H locs cells slots Q (F0 m pc ls (.int y :: .int x :: .ref (ad 4) :: rest)) :=
  ok_VR (As := [.int x, .int y]) F (c_Ls_hasCut σ h_r h_u hr4 hu4 hj hj9 ht ht9) 2 (tt_V hG i_Ls_hasCut l_Ls_hasCut in9_Ls k_Ls_hasCut) rfl ⟨rfl, rfl⟩ (by decide +kernel) hR hK hP (4) 2 rfl rfl ow_4 rfl hsz rfl hW hcs hdg kk
set_option maxHeartbeats 4000000 in
set_option maxRecDepth 100000 in
theorem c_Ls_clearWeights (σ : oS) {r : Nat} {u : Nat} (h_r : σ 9 0 0 = nI r) (h_u : σ 10 0 0 = nI u) (hr4 : r ≤ 4) (hu4 : u ≤ 4) : ok_MM l y_Ls_clearWeights (Cond.code y_Ls_clearWeights b_Ls_clearWeights 2 none :: tt) { frames := 1, cells := 0, slots := 0, locals := 21 } D vwCl (ot cI cL) (ow cI cL ad σ) (ow cI cL ad (ls_z σ r (r + u))) [.ref (ad 4)] none := by
  refine ok_startM (cc := b_Ls_clearWeights) (own := RLs) (maxL := 2) (ret := none) (by decide +kernel) rfl rfl (Nat.le_of_ble_eq_true rfl) ?_
  intro p e s m below meth c A F hr hlk hA hP hK hD hS ls hl
  have hl : lv_has ls 2 [(0, .ref (ad 4))] := hl
  have hx := F.1
  have hb := F.2.1
  have lp : ∀ (f k : Nat), k ≤ (r + u) → (r + u) - k < f → ∀ (H : Heap) (locs : List Loc), va_P D vwCl (ow cI cL ad (ls_z σ r k)) H → va_D A (ow cI cL ad (ls_z σ r k)) → va_S A s.heap H locs → ∀ ls : Array Slot, lv_has ls 2 [(1, .int (nI k)), (0, .ref (ad 4))] → W p l e { frames := 1, cells := 0, slots := 0, locals := 21 } s m ([.ref (ad 4)] : List Value).toArray below meth c H locs 0 0 (MQ below (ok_qA D vwCl A (ow cI cL ad (ls_z σ r (r + u))) none) ([.ref (ad 4)] : List Value).toArray s 0 0 A) (F0 m 2 ls []) := by
    intro f
    induction f with
    | zero => intro k h1 h2; omega
    | succ f ih =>
      intro k h1 h2 H locs hP hD hS ls hl
      refine lv_iload_n hx hb d_Ls_clearWeights_2 rfl (lv_at hl 0 rfl) ?_
      refine lv_aload_n hx hb d_Ls_clearWeights_3 rfl (lv_at hl 1 rfl) ?_
      refine x_Ls_count F (tt1 158 rfl rfl) ⟨Nat.le_of_ble_eq_true rfl, Nat.le_of_ble_eq_true rfl⟩ hK hP hl.1 (Nat.le_of_ble_eq_true rfl) ⟨Nat.zero_le _, Nat.zero_le _⟩ d_Ls_clearWeights_4 ?_
      refine lv_icmp_ge (tgt := 25) hx hb d_Ls_clearWeights_7 (by decide) (fun c1 => ?_) (fun c1 => ?_)
      · have hkn : (r + u) = k := by
          rw [ls_z_c (by decide), ls_z_c (by decide), ls_cnt h_r h_u, nI_leI (by omega) (by omega)] at c1; omega
        subst hkn
        exact ok_vretM F hr hlk hP hD hS d_Ls_clearWeights_25
      · have hkn : k < (r + u) := by
          rw [ls_z_c (by decide), ls_z_c (by decide), ls_cnt h_r h_u, nI_leI (by omega) (by omega)] at c1; omega
        refine lv_aload_n hx hb d_Ls_clearWeights_10 rfl (lv_at hl 1 rfl) ?_
        refine lv_iload_n hx hb d_Ls_clearWeights_11 rfl (lv_at hl 0 rfl) ?_
        refine x_Ls_at (r := r) (u := u) (by rw [ls_z_c (by decide)]; exact h_r) (by rw [ls_z_c (by decide)]; exact h_u) hr4 hu4 (k := k) rfl (by omega) (by omega) F (tt1 162 rfl rfl) ⟨Nat.le_of_ble_eq_true rfl, Nat.le_of_ble_eq_true rfl⟩ hK hP hl.1 (Nat.le_of_ble_eq_true rfl) ⟨Nat.zero_le _, Nat.zero_le _⟩ d_Ls_clearWeights_12 ?_
        refine lv_iconst (v := 0) hx hb d_Ls_clearWeights_15 (by decide) ?_
        refine x_Li_setWeight (i := (ls_i r k)) (ls_i_lt hr4 hu4 (by omega)) F (tt2 145 rfl rfl) ⟨Nat.le_of_ble_eq_true rfl, Nat.le_of_ble_eq_true rfl⟩ hK hP hD hS hA hl.1 (Nat.le_of_ble_eq_true rfl) ⟨Nat.zero_le _, Nat.zero_le _⟩ d_Ls_clearWeights_16 (fun H locs hP hD hS => ?_)
        refine lv_iinc (v := nI (k + 1)) (lv' := [(1, .int (nI (k + 1))), (0, .ref (ad 4))]) hx hb d_Ls_clearWeights_19 hl (k := 0) rfl (nI_inc _) (by decide) rfl (fun ls hl => ?_)
        refine lv_goto (tgt := 2) hx hb d_Ls_clearWeights_22 (by decide) ?_
        exact ih (k + 1) (by omega) (by omega) H locs hP hD hS ls (lv_sub hl [0, 1] rfl)
  refine lv_iconst (v := 0) hx hb d_Ls_clearWeights_0 (by decide) ?_
  refine lv_istore_n (lv' := [(1, .int 0), (0, .ref (ad 4))]) hx hb d_Ls_clearWeights_1 rfl hl (by decide) rfl (fun ls hl => ?_)
  exact lp ((r + u) + 1) 0 (by omega) (by omega) _ _ hP hD hS ls (lv_sub hl [0, 1] rfl)
theorem x_Ls_clearWeights {σ : oS} {r : Nat} {u : Nat} (h_r : σ 9 0 0 = nI r) (h_u : σ 10 0 0 = nI u) (hr4 : r ≤ 4) (hu4 : u ≤ 4) (F : CallFix p m c cc nL s args (cw :: tt) own) (hG : Cond.methodLink own index y_Ls_clearWeights ∈ tt) (hR : 1 + 1 ≤ R.frames ∧ 8 + (2 + 11) + 21 ≤ R.locals) (hK : va_K D vwCl (ot cI cL) s) (hP : va_P D vwCl (ow cI cL ad σ) H) (hD : va_D A (ow cI cL ad σ)) (hS : va_S A H0 H locs) (hA : ∀ q, H0.size ≤ q → A q) (hsz : ls.size = nL) (hW : (rest.map fun v => v.category).sum ≤ 8) (hcs : cells ≤ R.cells ∧ slots ≤ R.slots) (hdg : decode cc pc = .ok (.invokevirtual index, 3)) (kk : ∀ (H1 : Heap) (locs1 : List Loc), va_P D vwCl (ow cI cL ad (ls_z σ r (r + u))) H1 → va_D A (ow cI cL ad (ls_z σ r (r + u))) → va_S A H0 H1 locs1 → W p l e R s m args below meth c H1 locs1 cells slots Q (F0 m (pc + 3) ls (rest))) : W p l e R s m args below meth c H locs cells slots Q (F0 m pc ls (.ref (ad 4) :: rest)) :=
  ok_VM (As := []) F (c_Ls_clearWeights σ h_r h_u hr4 hu4) 0 (tt_V hG i_Ls_clearWeights l_Ls_clearWeights in9_Ls k_Ls_clearWeights) rfl ⟨rfl, rfl⟩ (by decide +kernel) hR hK hP hD hS hA (4) 2 rfl rfl ow_4 rfl hsz rfl hW hcs hdg kk
set_option maxHeartbeats 4000000 in
set_option maxRecDepth 100000 in
theorem c_Ls_addRow (σ : oS) {r : Nat} {u : Nat} (h_r : σ 9 0 0 = nI r) (h_u : σ 10 0 0 = nI u) (hr4 : r ≤ 4) (hu4 : u ≤ 4) (hr3 : r < 4) {x : Int32} {y : Int32} : ok_MM l y_Ls_addRow (Cond.code y_Ls_addRow b_Ls_addRow 4 (some .int) :: tt) { frames := 2, cells := 0, slots := 0, locals := 42 } D vwCl (ot cI cL) (ow cI cL ad σ) (ow cI cL ad (ls_z (u3 (u3 (u3 σ 4 r 0 x) 5 r 0 y) 9 0 0 (nI (r + 1))) (r + 1) (r + 1 + u))) [.ref (ad 4), .int x, .int y] (some (.int (nI r))) := by
  refine ok_startM (cc := b_Ls_addRow) (own := RLs) (maxL := 4) (ret := (some .int)) (by decide +kernel) rfl rfl (Nat.le_of_ble_eq_true rfl) ?_
  intro p e s m below meth c A F hr hlk hA hP hK hD hS ls hl
  have hl : lv_has ls 4 [(0, .ref (ad 4)), (1, .int x), (2, .int y)] := hl
  have hx := F.1
  have hb := F.2.1
  refine lv_aload_n hx hb d_Ls_addRow_0 rfl (lv_at hl 0 rfl) ?_
  refine gf_Ls_rows F hK hP d_Ls_addRow_1 ?_
  refine lv_aload_n hx hb d_Ls_addRow_4 rfl (lv_at hl 0 rfl) ?_
  refine gf_Ls_rowCount F hK hP d_Ls_addRow_5 ?_
  refine ok_aald F hK hP 5 1 ow_5 rfl (j := r) h_r (by omega) (by decide) rfl d_Ls_addRow_8 ?_
  refine lv_astore_n (lv' := [(3, .ref (ad (4 * r + 14))), (0, .ref (ad 4)), (1, .int x), (2, .int y)]) hx hb d_Ls_addRow_9 rfl hl (by decide) rfl (fun ls hl => ?_)
  refine lv_aload_n hx hb d_Ls_addRow_10 rfl (lv_at hl 0 rfl) ?_
  refine lv_iload_n hx hb d_Ls_addRow_11 rfl (lv_at hl 2 rfl) ?_
  refine x_Li_setKind (i := r) (by omega) F (tt2 133 rfl rfl) ⟨Nat.le_of_ble_eq_true rfl, Nat.le_of_ble_eq_true rfl⟩ hK hP hD hS hA hl.1 (Nat.le_of_ble_eq_true rfl) ⟨Nat.zero_le _, Nat.zero_le _⟩ d_Ls_addRow_12 (fun H locs hP hD hS => ?_)
  refine lv_aload_n hx hb d_Ls_addRow_15 rfl (lv_at hl 0 rfl) ?_
  refine lv_iload_n hx hb d_Ls_addRow_16 rfl (lv_at hl 3 rfl) ?_
  refine x_Li_setRight (i := r) (by omega) F (tt2 137 rfl rfl) ⟨Nat.le_of_ble_eq_true rfl, Nat.le_of_ble_eq_true rfl⟩ hK hP hD hS hA hl.1 (Nat.le_of_ble_eq_true rfl) ⟨Nat.zero_le _, Nat.zero_le _⟩ d_Ls_addRow_17 (fun H locs hP hD hS => ?_)
  refine lv_aload_n hx hb d_Ls_addRow_20 rfl (lv_at hl 1 rfl) ?_
  refine lv_dup hx hb d_Ls_addRow_21 rfl ?_
  refine gf_Ls_rowCount F hK hP d_Ls_addRow_22 ?_
  refine lv_iconst (v := 1) hx hb d_Ls_addRow_25 (by decide) ?_
  refine lv_iadd hx hb d_Ls_addRow_26 ?_
  refine pf_Ls_rowCount F hK hP hD hS d_Ls_addRow_27 (fun H locs hP hD hS => ?_)
  have ew : u3 (u3 (u3 σ 4 r 0 x) 5 r 0 y) 9 0 0 (((u3 (u3 σ 4 r 0 x) 5 r 0 y) 9 0 0) + 1) = u3 (u3 (u3 σ 4 r 0 x) 5 r 0 y) 9 0 0 (nI (r + 1)) := by congr 1; simp [u3_at, h_r, nI_1]
  rw [ew] at hP hD
  clear ew
  refine lv_aload_n hx hb d_Ls_addRow_30 rfl (lv_at hl 1 rfl) ?_
  refine x_Ls_clearWeights (r := (r + 1)) (u := u) (by simp [u3_at]) (by simp [u3_at, h_u]) (by omega) hu4 F (tt2 141 rfl rfl) ⟨Nat.le_of_ble_eq_true rfl, Nat.le_of_ble_eq_true rfl⟩ hK hP hD hS hA hl.1 (Nat.le_of_ble_eq_true rfl) ⟨Nat.zero_le _, Nat.zero_le _⟩ d_Ls_addRow_31 (fun H locs hP hD hS => ?_)
  refine lv_aload_n hx hb d_Ls_addRow_34 rfl (lv_at hl 1 rfl) ?_
  refine gf_Ls_rowCount F hK hP d_Ls_addRow_35 ?_
  refine lv_iconst (v := 1) hx hb d_Ls_addRow_38 (by decide) ?_
  refine lv_isub hx hb d_Ls_addRow_39 ?_
  exact ok_iretM F hr hlk hP hD hS (by rw [ls_z_c (by decide), u3_s]; exact nI_pred r) d_Ls_addRow_40
theorem x_Ls_addRow {σ : oS} {r : Nat} {u : Nat} (h_r : σ 9 0 0 = nI r) (h_u : σ 10 0 0 = nI u) (hr4 : r ≤ 4) (hu4 : u ≤ 4) (hr3 : r < 4) {x : Int32} {y : Int32} (F : CallFix p m c cc nL s args (cw :: tt) own) (hG : Cond.methodLink own index y_Ls_addRow ∈ tt) (hR : 2 + 1 ≤ R.frames ∧ 8 + (4 + 11) + 42 ≤ R.locals) (hK : va_K D vwCl (ot cI cL) s) (hP : va_P D vwCl (ow cI cL ad σ) H) (hD : va_D A (ow cI cL ad σ)) (hS : va_S A H0 H locs) (hA : ∀ q, H0.size ≤ q → A q) (hsz : ls.size = nL) (hW : (rest.map fun v => v.category).sum ≤ 8) (hcs : cells ≤ R.cells ∧ slots ≤ R.slots) (hdg : decode cc pc = .ok (.invokevirtual index, 3)) (kk : ∀ (H1 : Heap) (locs1 : List Loc), va_P D vwCl (ow cI cL ad (ls_z (u3 (u3 (u3 σ 4 r 0 x) 5 r 0 y) 9 0 0 (nI (r + 1))) (r + 1) (r + 1 + u))) H1 → va_D A (ow cI cL ad (ls_z (u3 (u3 (u3 σ 4 r 0 x) 5 r 0 y) 9 0 0 (nI (r + 1))) (r + 1) (r + 1 + u))) → va_S A H0 H1 locs1 → W p l e R s m args below meth c H1 locs1 cells slots Q (F0 m (pc + 3) ls (.int (nI r) :: rest))) : W p l e R s m args below meth c H locs cells slots Q (F0 m pc ls (.int y :: .int x :: .ref (ad 4) :: rest)) :=
  ok_VM (As := [.int x, .int y]) F (c_Ls_addRow σ h_r h_u hr4 hu4 hr3) 2 (tt_V hG i_Ls_addRow l_Ls_addRow in9_Ls k_Ls_addRow) rfl ⟨rfl, rfl⟩ (by decide +kernel) hR hK hP hD hS hA (4) 2 rfl rfl ow_4 rfl hsz rfl hW hcs hdg kk
set_option maxHeartbeats 4000000 in
set_option maxRecDepth 100000 in
theorem c_Ls_addCut (σ : oS) {r : Nat} {u : Nat} (h_r : σ 9 0 0 = nI r) (h_u : σ 10 0 0 = nI u) (hr4 : r ≤ 4) (hu4 : u ≤ 4) (hu3 : u < 4) {x : Int32} {j : Nat} (hj : x = nI j) (hj9 : j < 5) {y : Int32} {t : Nat} (ht : y = nI t) (ht9 : t < 5) {v : Int32} : ok_MM l y_Ls_addCut (Cond.code y_Ls_addCut b_Ls_addCut 5 (some .int) :: tt) { frames := 2, cells := 0, slots := 0, locals := 42 } D vwCl (ot cI cL) (ow cI cL ad σ) (ow cI cL ad (ls_z (u3 (u3 (u3 (u3 σ 5 (u + 4) 0 v) 3 (u + 4) j 1) 3 (u + 4) t 1) 10 0 0 (nI (u + 1))) r (r + (u + 1)))) [.ref (ad 4), .int x, .int y, .int v] (some (.int (nI (u + 1)))) := by
  refine ok_startM (cc := b_Ls_addCut) (own := RLs) (maxL := 5) (ret := (some .int)) (by decide +kernel) rfl rfl (Nat.le_of_ble_eq_true rfl) ?_
  intro p e s m below meth c A F hr hlk hA hP hK hD hS ls hl
  have hl : lv_has ls 5 [(0, .ref (ad 4)), (1, .int x), (2, .int y), (3, .int v)] := hl
  have hx := F.1
  have hb := F.2.1
  refine lv_aload_n hx hb d_Ls_addCut_0 rfl (lv_at hl 0 rfl) ?_
  refine gf_Ls_cuts F hK hP d_Ls_addCut_1 ?_
  refine lv_aload_n hx hb d_Ls_addCut_4 rfl (lv_at hl 0 rfl) ?_
  refine gf_Ls_cutCount F hK hP d_Ls_addCut_5 ?_
  refine ok_aald F hK hP 6 1 ow_6 rfl (j := u) h_u (by omega) (by decide) rfl d_Ls_addCut_8 ?_
  refine lv_astore (lv' := [(4, .ref (ad (4 * (u + 4) + 14))), (0, .ref (ad 4)), (1, .int x), (2, .int y), (3, .int v)]) hx hb d_Ls_addCut_9 hl (by decide) rfl (fun ls hl => ?_)
  refine lv_aload hx hb d_Ls_addCut_11 (lv_at hl 0 rfl) ?_
  refine lv_iload_n hx hb d_Ls_addCut_13 rfl (lv_at hl 4 rfl) ?_
  refine x_Li_setRight (i := (u + 4)) (by omega) F (tt2 137 rfl rfl) ⟨Nat.le_of_ble_eq_true rfl, Nat.le_of_ble_eq_true rfl⟩ hK hP hD hS hA hl.1 (Nat.le_of_ble_eq_true rfl) ⟨Nat.zero_le _, Nat.zero_le _⟩ d_Ls_addCut_14 (fun H locs hP hD hS => ?_)
  refine lv_aload hx hb d_Ls_addCut_17 (lv_at hl 0 rfl) ?_
  refine lv_iload_n hx hb d_Ls_addCut_19 rfl (lv_at hl 2 rfl) ?_
  refine lv_iconst (v := 1) hx hb d_Ls_addCut_20 (by decide) ?_
  refine x_Li_setFactor (i := (u + 4)) (by omega) (j := j) hj (by omega) F (tt2 222 rfl rfl) ⟨Nat.le_of_ble_eq_true rfl, Nat.le_of_ble_eq_true rfl⟩ hK hP hD hS hA hl.1 (Nat.le_of_ble_eq_true rfl) ⟨Nat.zero_le _, Nat.zero_le _⟩ d_Ls_addCut_21 (fun H locs hP hD hS => ?_)
  refine lv_aload hx hb d_Ls_addCut_24 (lv_at hl 0 rfl) ?_
  refine lv_iload_n hx hb d_Ls_addCut_26 rfl (lv_at hl 3 rfl) ?_
  refine lv_iconst (v := 1) hx hb d_Ls_addCut_27 (by decide) ?_
  refine x_Li_setFactor (i := (u + 4)) (by omega) (j := t) ht (by omega) F (tt2 222 rfl rfl) ⟨Nat.le_of_ble_eq_true rfl, Nat.le_of_ble_eq_true rfl⟩ hK hP hD hS hA hl.1 (Nat.le_of_ble_eq_true rfl) ⟨Nat.zero_le _, Nat.zero_le _⟩ d_Ls_addCut_28 (fun H locs hP hD hS => ?_)
  refine lv_aload_n hx hb d_Ls_addCut_31 rfl (lv_at hl 1 rfl) ?_
  refine lv_dup hx hb d_Ls_addCut_32 rfl ?_
  refine gf_Ls_cutCount F hK hP d_Ls_addCut_33 ?_
  refine lv_iconst (v := 1) hx hb d_Ls_addCut_36 (by decide) ?_
  refine lv_iadd hx hb d_Ls_addCut_37 ?_
  refine pf_Ls_cutCount F hK hP hD hS d_Ls_addCut_38 (fun H locs hP hD hS => ?_)
  have ew : u3 (u3 (u3 (u3 σ 5 (u + 4) 0 v) 3 (u + 4) j 1) 3 (u + 4) t 1) 10 0 0 (((u3 (u3 (u3 σ 5 (u + 4) 0 v) 3 (u + 4) j 1) 3 (u + 4) t 1) 10 0 0) + 1) = u3 (u3 (u3 (u3 σ 5 (u + 4) 0 v) 3 (u + 4) j 1) 3 (u + 4) t 1) 10 0 0 (nI (u + 1)) := by congr 1; simp [u3_at, h_u, nI_1]
  rw [ew] at hP hD
  clear ew
  refine lv_aload_n hx hb d_Ls_addCut_41 rfl (lv_at hl 1 rfl) ?_
  refine x_Ls_clearWeights (r := r) (u := (u + 1)) (by simp [u3_at, h_r]) (by simp [u3_at]) hr4 (by omega) F (tt2 141 rfl rfl) ⟨Nat.le_of_ble_eq_true rfl, Nat.le_of_ble_eq_true rfl⟩ hK hP hD hS hA hl.1 (Nat.le_of_ble_eq_true rfl) ⟨Nat.zero_le _, Nat.zero_le _⟩ d_Ls_addCut_42 (fun H locs hP hD hS => ?_)
  refine lv_aload_n hx hb d_Ls_addCut_45 rfl (lv_at hl 1 rfl) ?_
  refine gf_Ls_cutCount F hK hP d_Ls_addCut_46 ?_
  exact ok_iretM F hr hlk hP hD hS (by rw [ls_z_c (by decide), u3_s]) d_Ls_addCut_49
theorem x_Ls_addCut {σ : oS} {r : Nat} {u : Nat} (h_r : σ 9 0 0 = nI r) (h_u : σ 10 0 0 = nI u) (hr4 : r ≤ 4) (hu4 : u ≤ 4) (hu3 : u < 4) {x : Int32} {j : Nat} (hj : x = nI j) (hj9 : j < 5) {y : Int32} {t : Nat} (ht : y = nI t) (ht9 : t < 5) {v : Int32} (F : CallFix p m c cc nL s args (cw :: tt) own) (hG : Cond.methodLink own index y_Ls_addCut ∈ tt) (hR : 2 + 1 ≤ R.frames ∧ 8 + (5 + 11) + 42 ≤ R.locals) (hK : va_K D vwCl (ot cI cL) s) (hP : va_P D vwCl (ow cI cL ad σ) H) (hD : va_D A (ow cI cL ad σ)) (hS : va_S A H0 H locs) (hA : ∀ q, H0.size ≤ q → A q) (hsz : ls.size = nL) (hW : (rest.map fun v => v.category).sum ≤ 8) (hcs : cells ≤ R.cells ∧ slots ≤ R.slots) (hdg : decode cc pc = .ok (.invokevirtual index, 3)) (kk : ∀ (H1 : Heap) (locs1 : List Loc), va_P D vwCl (ow cI cL ad (ls_z (u3 (u3 (u3 (u3 σ 5 (u + 4) 0 v) 3 (u + 4) j 1) 3 (u + 4) t 1) 10 0 0 (nI (u + 1))) r (r + (u + 1)))) H1 → va_D A (ow cI cL ad (ls_z (u3 (u3 (u3 (u3 σ 5 (u + 4) 0 v) 3 (u + 4) j 1) 3 (u + 4) t 1) 10 0 0 (nI (u + 1))) r (r + (u + 1)))) → va_S A H0 H1 locs1 → W p l e R s m args below meth c H1 locs1 cells slots Q (F0 m (pc + 3) ls (.int (nI (u + 1)) :: rest))) : W p l e R s m args below meth c H locs cells slots Q (F0 m pc ls (.int v :: .int y :: .int x :: .ref (ad 4) :: rest)) :=
  ok_VM (As := [.int x, .int y, .int v]) F (c_Ls_addCut σ h_r h_u hr4 hu4 hu3 hj hj9 ht ht9) 3 (tt_V hG i_Ls_addCut l_Ls_addCut in9_Ls k_Ls_addCut) rfl ⟨rfl, rfl⟩ (by decide +kernel) hR hK hP hD hS hA (4) 2 rfl rfl ow_4 rfl hsz rfl hW hcs hdg kk
set_option maxHeartbeats 4000000 in
set_option maxRecDepth 100000 in
theorem c_Ls_weightedRights (σ : oS) {r : Nat} {u : Nat} (h_r : σ 9 0 0 = nI r) (h_u : σ 10 0 0 = nI u) (hr4 : r ≤ 4) (hu4 : u ≤ 4) : ok_MR l y_Ls_weightedRights (Cond.code y_Ls_weightedRights b_Ls_weightedRights 4 (some .long) :: tt) { frames := 1, cells := 0, slots := 0, locals := 21 } D vwCl (ot cI cL) (ow cI cL ad σ) [.ref (ad 4)] (some (.long (ls_wr σ r (r + u)))) := by
  refine ok_startR (cc := b_Ls_weightedRights) (own := RLs) (maxL := 4) (ret := (some .long)) (by decide +kernel) rfl rfl (Nat.le_of_ble_eq_true rfl) ?_
  intro p e s m below meth c F hr hlk hP hK ls hl
  have hl : lv_has ls 4 [(0, .ref (ad 4))] := hl
  have hx := F.1
  have hb := F.2.1
  have lp : ∀ (f k : Nat), k ≤ (r + u) → (r + u) - k < f → ∀ ls : Array Slot, lv_has ls 4 [(3, .int (nI k)), (1, .long (ls_wr σ r k)), (0, .ref (ad 4))] → W p l e { frames := 1, cells := 0, slots := 0, locals := 21 } s m ([.ref (ad 4)] : List Value).toArray below meth c s.heap [] 0 0 (MQ below (ok_R (some (.long (ls_wr σ r (r + u))))) ([.ref (ad 4)] : List Value).toArray s 0 0 (fun _ => False)) (F0 m 4 ls []) := by
    intro f
    induction f with
    | zero => intro k h1 h2; omega
    | succ f ih =>
      intro k h1 h2 ls hl
      refine lv_iload_n hx hb d_Ls_weightedRights_4 rfl (lv_at hl 0 rfl) ?_
      refine lv_aload_n hx hb d_Ls_weightedRights_5 rfl (lv_at hl 2 rfl) ?_
      refine x_Ls_count F (tt1 158 rfl rfl) ⟨Nat.le_of_ble_eq_true rfl, Nat.le_of_ble_eq_true rfl⟩ hK hP hl.1 (Nat.le_of_ble_eq_true rfl) ⟨Nat.zero_le _, Nat.zero_le _⟩ d_Ls_weightedRights_6 ?_
      refine lv_icmp_ge (tgt := 40) hx hb d_Ls_weightedRights_9 (by decide) (fun c1 => ?_) (fun c1 => ?_)
      · have hkn : (r + u) = k := by
          rw [ls_cnt h_r h_u, nI_leI (by omega) (by omega)] at c1; omega
        subst hkn
        refine lv_lload_n hx hb d_Ls_weightedRights_40 rfl (lv_at hl 1 rfl) ?_
        exact ok_lretR F hr hlk (rfl) d_Ls_weightedRights_41
      · have hkn : k < (r + u) := by
          rw [ls_cnt h_r h_u, nI_leI (by omega) (by omega)] at c1; omega
        refine lv_lload_n hx hb d_Ls_weightedRights_12 rfl (lv_at hl 1 rfl) ?_
        refine lv_aload_n hx hb d_Ls_weightedRights_13 rfl (lv_at hl 2 rfl) ?_
        refine lv_iload_n hx hb d_Ls_weightedRights_14 rfl (lv_at hl 0 rfl) ?_
        refine x_Ls_at (r := r) (u := u) h_r h_u hr4 hu4 (k := k) rfl (by omega) (by omega) F (tt1 162 rfl rfl) ⟨Nat.le_of_ble_eq_true rfl, Nat.le_of_ble_eq_true rfl⟩ hK hP hl.1 (Nat.le_of_ble_eq_true rfl) ⟨Nat.zero_le _, Nat.zero_le _⟩ d_Ls_weightedRights_15 ?_
        refine x_Li_weight (i := (ls_i r k)) (ls_i_lt hr4 hu4 (by omega)) F (tt1 166 rfl rfl) ⟨Nat.le_of_ble_eq_true rfl, Nat.le_of_ble_eq_true rfl⟩ hK hP hl.1 (Nat.le_of_ble_eq_true rfl) ⟨Nat.zero_le _, Nat.zero_le _⟩ d_Ls_weightedRights_18 ?_
        refine lv_i2l hx hb d_Ls_weightedRights_21 rfl ?_
        refine lv_aload_n hx hb d_Ls_weightedRights_22 rfl (lv_at hl 2 rfl) ?_
        refine lv_iload_n hx hb d_Ls_weightedRights_23 rfl (lv_at hl 0 rfl) ?_
        refine x_Ls_at (r := r) (u := u) h_r h_u hr4 hu4 (k := k) rfl (by omega) (by omega) F (tt1 162 rfl rfl) ⟨Nat.le_of_ble_eq_true rfl, Nat.le_of_ble_eq_true rfl⟩ hK hP hl.1 (Nat.le_of_ble_eq_true rfl) ⟨Nat.zero_le _, Nat.zero_le _⟩ d_Ls_weightedRights_24 ?_
        refine x_Li_rightSide (i := (ls_i r k)) (ls_i_lt hr4 hu4 (by omega)) F (tt1 170 rfl rfl) ⟨Nat.le_of_ble_eq_true rfl, Nat.le_of_ble_eq_true rfl⟩ hK hP hl.1 (Nat.le_of_ble_eq_true rfl) ⟨Nat.zero_le _, Nat.zero_le _⟩ d_Ls_weightedRights_27 ?_
        refine lv_i2l hx hb d_Ls_weightedRights_30 rfl ?_
        refine lv_lmul hx hb d_Ls_weightedRights_31 ?_
        refine lv_ladd hx hb d_Ls_weightedRights_32 ?_
        refine lv_lstore_n (lv' := [(1, .long ((ls_wr σ r k) + ((Int32.toInt64 (σ 6 (ls_i r k) 0)) * (Int32.toInt64 (σ 5 (ls_i r k) 0))))), (3, .int (nI k)), (0, .ref (ad 4))]) hx hb d_Ls_weightedRights_33 rfl hl (by decide) rfl (fun ls hl => ?_)
        refine lv_iinc (v := nI (k + 1)) (lv' := [(3, .int (nI (k + 1))), (1, .long ((ls_wr σ r k) + ((Int32.toInt64 (σ 6 (ls_i r k) 0)) * (Int32.toInt64 (σ 5 (ls_i r k) 0))))), (0, .ref (ad 4))]) hx hb d_Ls_weightedRights_34 hl (k := 1) rfl (nI_inc _) (by decide) rfl (fun ls hl => ?_)
        refine lv_goto (tgt := 4) hx hb d_Ls_weightedRights_37 (by decide) ?_
        exact ih (k + 1) (by omega) (by omega) ls (lv_sub hl [0, 1, 2] rfl)
  refine lv_lconst (v := 0) hx hb d_Ls_weightedRights_0 (by decide) ?_
  refine lv_lstore_n (lv' := [(1, .long 0), (0, .ref (ad 4))]) hx hb d_Ls_weightedRights_1 rfl hl (by decide) rfl (fun ls hl => ?_)
  refine lv_iconst (v := 0) hx hb d_Ls_weightedRights_2 (by decide) ?_
  refine lv_istore_n (lv' := [(3, .int 0), (1, .long 0), (0, .ref (ad 4))]) hx hb d_Ls_weightedRights_3 rfl hl (by decide) rfl (fun ls hl => ?_)
  exact lp ((r + u) + 1) 0 (by omega) (by omega) ls (lv_sub hl [0, 1, 2] rfl)
theorem x_Ls_weightedRights {σ : oS} {r : Nat} {u : Nat} (h_r : σ 9 0 0 = nI r) (h_u : σ 10 0 0 = nI u) (hr4 : r ≤ 4) (hu4 : u ≤ 4) (F : CallFix p m c cc nL s args (cw :: tt) own) (hG : Cond.methodLink own index y_Ls_weightedRights ∈ tt) (hR : 1 + 1 ≤ R.frames ∧ 8 + (4 + 11) + 21 ≤ R.locals) (hK : va_K D vwCl (ot cI cL) s) (hP : va_P D vwCl (ow cI cL ad σ) H) (hsz : ls.size = nL) (hW : (rest.map fun v => v.category).sum ≤ 8) (hcs : cells ≤ R.cells ∧ slots ≤ R.slots) (hdg : decode cc pc = .ok (.invokevirtual index, 3)) (kk : W p l e R s m args below meth c H locs cells slots Q (F0 m (pc + 3) ls (.long (ls_wr σ r (r + u)) :: rest))) : W p l e R s m args below meth c H locs cells slots Q (F0 m pc ls (.ref (ad 4) :: rest)) :=
  ok_VR (As := []) F (c_Ls_weightedRights σ h_r h_u hr4 hu4) 0 (tt_V hG i_Ls_weightedRights l_Ls_weightedRights in9_Ls k_Ls_weightedRights) rfl ⟨rfl, rfl⟩ (by decide +kernel) hR hK hP (4) 2 rfl rfl ow_4 rfl hsz rfl hW hcs hdg kk
set_option maxHeartbeats 4000000 in
set_option maxRecDepth 100000 in
theorem c_Ls_weightedFactors (σ : oS) {r : Nat} {u : Nat} (h_r : σ 9 0 0 = nI r) (h_u : σ 10 0 0 = nI u) (hr4 : r ≤ 4) (hu4 : u ≤ 4) {x : Int32} {j : Nat} (hj : x = nI j) (hj9 : j < 5) : ok_MR l y_Ls_weightedFactors (Cond.code y_Ls_weightedFactors b_Ls_weightedFactors 5 (some .long) :: tt) { frames := 1, cells := 0, slots := 0, locals := 21 } D vwCl (ot cI cL) (ow cI cL ad σ) [.ref (ad 4), .int x] (some (.long (ls_wf σ r j (r + u)))) := by
  refine ok_startR (cc := b_Ls_weightedFactors) (own := RLs) (maxL := 5) (ret := (some .long)) (by decide +kernel) rfl rfl (Nat.le_of_ble_eq_true rfl) ?_
  intro p e s m below meth c F hr hlk hP hK ls hl
  have hl : lv_has ls 5 [(0, .ref (ad 4)), (1, .int x)] := hl
  have hx := F.1
  have hb := F.2.1
  have lp : ∀ (f k : Nat), k ≤ (r + u) → (r + u) - k < f → ∀ ls : Array Slot, lv_has ls 5 [(4, .int (nI k)), (2, .long (ls_wf σ r j k)), (0, .ref (ad 4)), (1, .int x)] → W p l e { frames := 1, cells := 0, slots := 0, locals := 21 } s m ([.ref (ad 4), .int x] : List Value).toArray below meth c s.heap [] 0 0 (MQ below (ok_R (some (.long (ls_wf σ r j (r + u))))) ([.ref (ad 4), .int x] : List Value).toArray s 0 0 (fun _ => False)) (F0 m 5 ls []) := by
    intro f
    induction f with
    | zero => intro k h1 h2; omega
    | succ f ih =>
      intro k h1 h2 ls hl
      refine lv_iload hx hb d_Ls_weightedFactors_5 (lv_at hl 0 rfl) ?_
      refine lv_aload_n hx hb d_Ls_weightedFactors_7 rfl (lv_at hl 2 rfl) ?_
      refine x_Ls_count F (tt1 158 rfl rfl) ⟨Nat.le_of_ble_eq_true rfl, Nat.le_of_ble_eq_true rfl⟩ hK hP hl.1 (Nat.le_of_ble_eq_true rfl) ⟨Nat.zero_le _, Nat.zero_le _⟩ d_Ls_weightedFactors_8 ?_
      refine lv_icmp_ge (tgt := 45) hx hb d_Ls_weightedFactors_11 (by decide) (fun c1 => ?_) (fun c1 => ?_)
      · have hkn : (r + u) = k := by
          rw [ls_cnt h_r h_u, nI_leI (by omega) (by omega)] at c1; omega
        subst hkn
        refine lv_lload_n hx hb d_Ls_weightedFactors_45 rfl (lv_at hl 1 rfl) ?_
        exact ok_lretR F hr hlk (rfl) d_Ls_weightedFactors_46
      · have hkn : k < (r + u) := by
          rw [ls_cnt h_r h_u, nI_leI (by omega) (by omega)] at c1; omega
        refine lv_lload_n hx hb d_Ls_weightedFactors_14 rfl (lv_at hl 1 rfl) ?_
        refine lv_aload_n hx hb d_Ls_weightedFactors_15 rfl (lv_at hl 2 rfl) ?_
        refine lv_iload hx hb d_Ls_weightedFactors_16 (lv_at hl 0 rfl) ?_
        refine x_Ls_at (r := r) (u := u) h_r h_u hr4 hu4 (k := k) rfl (by omega) (by omega) F (tt1 162 rfl rfl) ⟨Nat.le_of_ble_eq_true rfl, Nat.le_of_ble_eq_true rfl⟩ hK hP hl.1 (Nat.le_of_ble_eq_true rfl) ⟨Nat.zero_le _, Nat.zero_le _⟩ d_Ls_weightedFactors_18 ?_
        refine x_Li_weight (i := (ls_i r k)) (ls_i_lt hr4 hu4 (by omega)) F (tt1 166 rfl rfl) ⟨Nat.le_of_ble_eq_true rfl, Nat.le_of_ble_eq_true rfl⟩ hK hP hl.1 (Nat.le_of_ble_eq_true rfl) ⟨Nat.zero_le _, Nat.zero_le _⟩ d_Ls_weightedFactors_21 ?_
        refine lv_i2l hx hb d_Ls_weightedFactors_24 rfl ?_
        refine lv_aload_n hx hb d_Ls_weightedFactors_25 rfl (lv_at hl 2 rfl) ?_
        refine lv_iload hx hb d_Ls_weightedFactors_26 (lv_at hl 0 rfl) ?_
        refine x_Ls_at (r := r) (u := u) h_r h_u hr4 hu4 (k := k) rfl (by omega) (by omega) F (tt1 162 rfl rfl) ⟨Nat.le_of_ble_eq_true rfl, Nat.le_of_ble_eq_true rfl⟩ hK hP hl.1 (Nat.le_of_ble_eq_true rfl) ⟨Nat.zero_le _, Nat.zero_le _⟩ d_Ls_weightedFactors_28 ?_
        refine lv_iload_n hx hb d_Ls_weightedFactors_31 rfl (lv_at hl 3 rfl) ?_
        refine x_Li_factorOf (i := (ls_i r k)) (ls_i_lt hr4 hu4 (by omega)) (j := j) hj (by omega) F (tt1 187 rfl rfl) ⟨Nat.le_of_ble_eq_true rfl, Nat.le_of_ble_eq_true rfl⟩ hK hP hl.1 (Nat.le_of_ble_eq_true rfl) ⟨Nat.zero_le _, Nat.zero_le _⟩ d_Ls_weightedFactors_32 ?_
        refine lv_i2l hx hb d_Ls_weightedFactors_35 rfl ?_
        refine lv_lmul hx hb d_Ls_weightedFactors_36 ?_
        refine lv_ladd hx hb d_Ls_weightedFactors_37 ?_
        refine lv_lstore_n (lv' := [(2, .long ((ls_wf σ r j k) + ((Int32.toInt64 (σ 6 (ls_i r k) 0)) * (Int32.toInt64 (σ 3 (ls_i r k) j))))), (4, .int (nI k)), (0, .ref (ad 4)), (1, .int x)]) hx hb d_Ls_weightedFactors_38 rfl hl (by decide) rfl (fun ls hl => ?_)
        refine lv_iinc (v := nI (k + 1)) (lv' := [(4, .int (nI (k + 1))), (2, .long ((ls_wf σ r j k) + ((Int32.toInt64 (σ 6 (ls_i r k) 0)) * (Int32.toInt64 (σ 3 (ls_i r k) j))))), (0, .ref (ad 4)), (1, .int x)]) hx hb d_Ls_weightedFactors_39 hl (k := 1) rfl (nI_inc _) (by decide) rfl (fun ls hl => ?_)
        refine lv_goto (tgt := 5) hx hb d_Ls_weightedFactors_42 (by decide) ?_
        exact ih (k + 1) (by omega) (by omega) ls (lv_sub hl [0, 1, 2, 3] rfl)
  refine lv_lconst (v := 0) hx hb d_Ls_weightedFactors_0 (by decide) ?_
  refine lv_lstore_n (lv' := [(2, .long 0), (0, .ref (ad 4)), (1, .int x)]) hx hb d_Ls_weightedFactors_1 rfl hl (by decide) rfl (fun ls hl => ?_)
  refine lv_iconst (v := 0) hx hb d_Ls_weightedFactors_2 (by decide) ?_
  refine lv_istore (lv' := [(4, .int 0), (2, .long 0), (0, .ref (ad 4)), (1, .int x)]) hx hb d_Ls_weightedFactors_3 hl (by decide) rfl (fun ls hl => ?_)
  exact lp ((r + u) + 1) 0 (by omega) (by omega) ls (lv_sub hl [0, 1, 2, 3] rfl)
theorem x_Ls_weightedFactors {σ : oS} {r : Nat} {u : Nat} (h_r : σ 9 0 0 = nI r) (h_u : σ 10 0 0 = nI u) (hr4 : r ≤ 4) (hu4 : u ≤ 4) {x : Int32} {j : Nat} (hj : x = nI j) (hj9 : j < 5) (F : CallFix p m c cc nL s args (cw :: tt) own) (hG : Cond.methodLink own index y_Ls_weightedFactors ∈ tt) (hR : 1 + 1 ≤ R.frames ∧ 8 + (5 + 11) + 21 ≤ R.locals) (hK : va_K D vwCl (ot cI cL) s) (hP : va_P D vwCl (ow cI cL ad σ) H) (hsz : ls.size = nL) (hW : (rest.map fun v => v.category).sum ≤ 8) (hcs : cells ≤ R.cells ∧ slots ≤ R.slots) (hdg : decode cc pc = .ok (.invokevirtual index, 3)) (kk : W p l e R s m args below meth c H locs cells slots Q (F0 m (pc + 3) ls (.long (ls_wf σ r j (r + u)) :: rest))) : W p l e R s m args below meth c H locs cells slots Q (F0 m pc ls (.int x :: .ref (ad 4) :: rest)) :=
  ok_VR (As := [.int x]) F (c_Ls_weightedFactors σ h_r h_u hr4 hu4 hj hj9) 1 (tt_V hG i_Ls_weightedFactors l_Ls_weightedFactors in9_Ls k_Ls_weightedFactors) rfl ⟨rfl, rfl⟩ (by decide +kernel) hR hK hP (4) 2 rfl rfl ow_4 rfl hsz rfl hW hcs hdg kk
set_option maxHeartbeats 4000000 in
set_option maxRecDepth 100000 in
theorem c_Ls_holdWithoutColumns (σ : oS) {r : Nat} {u : Nat} (h_r : σ 9 0 0 = nI r) (h_u : σ 10 0 0 = nI u) (hr4 : r ≤ 4) (hu4 : u ≤ 4) : ok_MR l y_Ls_holdWithoutColumns (Cond.code y_Ls_holdWithoutColumns b_Ls_holdWithoutColumns 2 (some .boolean) :: tt) { frames := 1, cells := 0, slots := 0, locals := 21 } D vwCl (ot cI cL) (ow cI cL ad σ) [.ref (ad 4)] (some (.int (if ls_0 σ r (r + u) = true then 1 else 0))) := by
  refine ok_startR (cc := b_Ls_holdWithoutColumns) (own := RLs) (maxL := 2) (ret := (some .boolean)) (by decide +kernel) rfl rfl (Nat.le_of_ble_eq_true rfl) ?_
  intro p e s m below meth c F hr hlk hP hK ls hl
  have hl : lv_has ls 2 [(0, .ref (ad 4))] := hl
  have hx := F.1
  have hb := F.2.1
  have lp : ∀ (f k : Nat), k ≤ (r + u) → (r + u) - k < f → ls_0 σ r k = true → ∀ ls : Array Slot, lv_has ls 2 [(1, .int (nI k)), (0, .ref (ad 4))] → W p l e { frames := 1, cells := 0, slots := 0, locals := 21 } s m ([.ref (ad 4)] : List Value).toArray below meth c s.heap [] 0 0 (MQ below (ok_R (some (.int (if ls_0 σ r (r + u) = true then 1 else 0)))) ([.ref (ad 4)] : List Value).toArray s 0 0 (fun _ => False)) (F0 m 2 ls []) := by
    intro f
    induction f with
    | zero => intro k h1 h2; omega
    | succ f ih =>
      intro k h1 h2 hin ls hl
      refine lv_iload_n hx hb d_Ls_holdWithoutColumns_2 rfl (lv_at hl 0 rfl) ?_
      refine lv_aload_n hx hb d_Ls_holdWithoutColumns_3 rfl (lv_at hl 1 rfl) ?_
      refine x_Ls_count F (tt1 158 rfl rfl) ⟨Nat.le_of_ble_eq_true rfl, Nat.le_of_ble_eq_true rfl⟩ hK hP hl.1 (Nat.le_of_ble_eq_true rfl) ⟨Nat.zero_le _, Nat.zero_le _⟩ d_Ls_holdWithoutColumns_4 ?_
      refine lv_icmp_ge (tgt := 30) hx hb d_Ls_holdWithoutColumns_7 (by decide) (fun c1 => ?_) (fun c1 => ?_)
      · have hkn : (r + u) = k := by
          rw [ls_cnt h_r h_u, nI_leI (by omega) (by omega)] at c1; omega
        subst hkn
        refine lv_iconst (v := 1) hx hb d_Ls_holdWithoutColumns_30 (by decide) ?_
        exact ok_zretR F hr hlk (rfl) (by rw [if_pos hin]) d_Ls_holdWithoutColumns_31
      · have hkn : k < (r + u) := by
          rw [ls_cnt h_r h_u, nI_leI (by omega) (by omega)] at c1; omega
        refine lv_aload_n hx hb d_Ls_holdWithoutColumns_10 rfl (lv_at hl 1 rfl) ?_
        refine lv_iload_n hx hb d_Ls_holdWithoutColumns_11 rfl (lv_at hl 0 rfl) ?_
        refine x_Ls_at (r := r) (u := u) h_r h_u hr4 hu4 (k := k) rfl (by omega) (by omega) F (tt1 162 rfl rfl) ⟨Nat.le_of_ble_eq_true rfl, Nat.le_of_ble_eq_true rfl⟩ hK hP hl.1 (Nat.le_of_ble_eq_true rfl) ⟨Nat.zero_le _, Nat.zero_le _⟩ d_Ls_holdWithoutColumns_12 ?_
        refine lv_iconst (v := 0) hx hb d_Ls_holdWithoutColumns_15 (by decide) ?_
        refine x_Li_holds (i := (ls_i r k)) (ls_i_lt hr4 hu4 (by omega)) F (tt3 4 rfl rfl) ⟨Nat.le_of_ble_eq_true rfl, Nat.le_of_ble_eq_true rfl⟩ hK hP hl.1 (Nat.le_of_ble_eq_true rfl) ⟨Nat.zero_le _, Nat.zero_le _⟩ d_Ls_holdWithoutColumns_16 ?_
        refine lv_if_ne (tgt := 24) hx hb d_Ls_holdWithoutColumns_19 (by decide) (fun c2 => ?_) (fun c2 => ?_)
        · refine lv_iinc (v := nI (k + 1)) (lv' := [(1, .int (nI (k + 1))), (0, .ref (ad 4))]) hx hb d_Ls_holdWithoutColumns_24 hl (k := 0) rfl (nI_inc _) (by decide) rfl (fun ls hl => ?_)
          refine lv_goto (tgt := 2) hx hb d_Ls_holdWithoutColumns_27 (by decide) ?_
          exact ih (k + 1) (by omega) (by omega) (by rw [ls_0, hin, li_h_1 c2]; rfl) ls (lv_sub hl [0, 1] rfl)
        · refine lv_iconst (v := 0) hx hb d_Ls_holdWithoutColumns_22 (by decide) ?_
          exact ok_zretR F hr hlk (rfl) (by rw [if_neg (by rw [ls_0_mono (k := k + 1) (by omega) (by simp [ls_0, c2])]; decide)]) d_Ls_holdWithoutColumns_23
  refine lv_iconst (v := 0) hx hb d_Ls_holdWithoutColumns_0 (by decide) ?_
  refine lv_istore_n (lv' := [(1, .int 0), (0, .ref (ad 4))]) hx hb d_Ls_holdWithoutColumns_1 rfl hl (by decide) rfl (fun ls hl => ?_)
  exact lp ((r + u) + 1) 0 (by omega) (by omega) (rfl) ls (lv_sub hl [0, 1] rfl)
theorem x_Ls_holdWithoutColumns {σ : oS} {r : Nat} {u : Nat} (h_r : σ 9 0 0 = nI r) (h_u : σ 10 0 0 = nI u) (hr4 : r ≤ 4) (hu4 : u ≤ 4) (F : CallFix p m c cc nL s args (cw :: tt) own) (hG : Cond.methodLink own index y_Ls_holdWithoutColumns ∈ tt) (hR : 1 + 1 ≤ R.frames ∧ 8 + (2 + 11) + 21 ≤ R.locals) (hK : va_K D vwCl (ot cI cL) s) (hP : va_P D vwCl (ow cI cL ad σ) H) (hsz : ls.size = nL) (hW : (rest.map fun v => v.category).sum ≤ 8) (hcs : cells ≤ R.cells ∧ slots ≤ R.slots) (hdg : decode cc pc = .ok (.invokevirtual index, 3)) (kk : W p l e R s m args below meth c H locs cells slots Q (F0 m (pc + 3) ls (.int (if ls_0 σ r (r + u) = true then 1 else 0) :: rest))) : W p l e R s m args below meth c H locs cells slots Q (F0 m pc ls (.ref (ad 4) :: rest)) :=
  ok_VR (As := []) F (c_Ls_holdWithoutColumns σ h_r h_u hr4 hu4) 0 (tt_V hG i_Ls_holdWithoutColumns l_Ls_holdWithoutColumns in9_Ls k_Ls_holdWithoutColumns) rfl ⟨rfl, rfl⟩ (by decide +kernel) hR hK hP (4) 2 rfl rfl ow_4 rfl hsz rfl hW hcs hdg kk
set_option maxHeartbeats 4000000 in
set_option maxRecDepth 100000 in
theorem c_Ls_beginSums (σ : oS) {r : Nat} {u : Nat} (h_r : σ 9 0 0 = nI r) (h_u : σ 10 0 0 = nI u) (hr4 : r ≤ 4) (hu4 : u ≤ 4) {n : Nat} (hn : σ 2 0 0 = nI n) (hn9 : n ≤ 5) : ok_MM l y_Ls_beginSums (Cond.code y_Ls_beginSums b_Ls_beginSums 3 none :: tt) { frames := 3, cells := 0, slots := 0, locals := 67 } D vwCl (ot cI cL) (ow cI cL ad σ) (ow cI cL ad (ls_b σ r n (r + u))) [.ref (ad 4), .ref (ad 1)] none := by
  refine ok_startM (cc := b_Ls_beginSums) (own := RLs) (maxL := 3) (ret := none) (by decide +kernel) rfl rfl (Nat.le_of_ble_eq_true rfl) ?_
  intro p e s m below meth c A F hr hlk hA hP hK hD hS ls hl
  have hl : lv_has ls 3 [(0, .ref (ad 4)), (1, .ref (ad 1))] := hl
  have hx := F.1
  have hb := F.2.1
  have lp : ∀ (f k : Nat), k ≤ (r + u) → (r + u) - k < f → ∀ (H : Heap) (locs : List Loc), va_P D vwCl (ow cI cL ad (ls_b σ r n k)) H → va_D A (ow cI cL ad (ls_b σ r n k)) → va_S A s.heap H locs → ∀ ls : Array Slot, lv_has ls 3 [(2, .int (nI k)), (0, .ref (ad 4)), (1, .ref (ad 1))] → W p l e { frames := 3, cells := 0, slots := 0, locals := 67 } s m ([.ref (ad 4), .ref (ad 1)] : List Value).toArray below meth c H locs 0 0 (MQ below (ok_qA D vwCl A (ow cI cL ad (ls_b σ r n (r + u))) none) ([.ref (ad 4), .ref (ad 1)] : List Value).toArray s 0 0 A) (F0 m 2 ls []) := by
    intro f
    induction f with
    | zero => intro k h1 h2; omega
    | succ f ih =>
      intro k h1 h2 H locs hP hD hS ls hl
      refine lv_iload_n hx hb d_Ls_beginSums_2 rfl (lv_at hl 0 rfl) ?_
      refine lv_aload_n hx hb d_Ls_beginSums_3 rfl (lv_at hl 1 rfl) ?_
      refine x_Ls_count F (tt1 158 rfl rfl) ⟨Nat.le_of_ble_eq_true rfl, Nat.le_of_ble_eq_true rfl⟩ hK hP hl.1 (Nat.le_of_ble_eq_true rfl) ⟨Nat.zero_le _, Nat.zero_le _⟩ d_Ls_beginSums_4 ?_
      refine lv_icmp_ge (tgt := 25) hx hb d_Ls_beginSums_7 (by decide) (fun c1 => ?_) (fun c1 => ?_)
      · have hkn : (r + u) = k := by
          rw [ls_b_c (by decide) (by decide), ls_b_c (by decide) (by decide), ls_cnt h_r h_u, nI_leI (by omega) (by omega)] at c1; omega
        subst hkn
        exact ok_vretM F hr hlk hP hD hS d_Ls_beginSums_25
      · have hkn : k < (r + u) := by
          rw [ls_b_c (by decide) (by decide), ls_b_c (by decide) (by decide), ls_cnt h_r h_u, nI_leI (by omega) (by omega)] at c1; omega
        refine lv_aload_n hx hb d_Ls_beginSums_10 rfl (lv_at hl 1 rfl) ?_
        refine lv_iload_n hx hb d_Ls_beginSums_11 rfl (lv_at hl 0 rfl) ?_
        refine x_Ls_at (r := r) (u := u) (by rw [ls_b_c (by decide) (by decide)]; exact h_r) (by rw [ls_b_c (by decide) (by decide)]; exact h_u) hr4 hu4 (k := k) rfl (by omega) (by omega) F (tt1 162 rfl rfl) ⟨Nat.le_of_ble_eq_true rfl, Nat.le_of_ble_eq_true rfl⟩ hK hP hl.1 (Nat.le_of_ble_eq_true rfl) ⟨Nat.zero_le _, Nat.zero_le _⟩ d_Ls_beginSums_12 ?_
        refine lv_aload_n hx hb d_Ls_beginSums_15 rfl (lv_at hl 2 rfl) ?_
        refine x_Li_beginSums (i := (ls_i r k)) (ls_i_lt hr4 hu4 (by omega)) (n := n) (by rw [ls_b_c (by decide) (by decide)]; exact hn) hn9 F (tt2 108 rfl rfl) ⟨Nat.le_of_ble_eq_true rfl, Nat.le_of_ble_eq_true rfl⟩ hK hP hD hS hA hl.1 (Nat.le_of_ble_eq_true rfl) ⟨Nat.zero_le _, Nat.zero_le _⟩ d_Ls_beginSums_16 (fun H locs hP hD hS => ?_)
        refine lv_iinc (v := nI (k + 1)) (lv' := [(2, .int (nI (k + 1))), (0, .ref (ad 4)), (1, .ref (ad 1))]) hx hb d_Ls_beginSums_19 hl (k := 0) rfl (nI_inc _) (by decide) rfl (fun ls hl => ?_)
        refine lv_goto (tgt := 2) hx hb d_Ls_beginSums_22 (by decide) ?_
        exact ih (k + 1) (by omega) (by omega) H locs hP hD hS ls (lv_sub hl [0, 1, 2] rfl)
  refine lv_iconst (v := 0) hx hb d_Ls_beginSums_0 (by decide) ?_
  refine lv_istore_n (lv' := [(2, .int 0), (0, .ref (ad 4)), (1, .ref (ad 1))]) hx hb d_Ls_beginSums_1 rfl hl (by decide) rfl (fun ls hl => ?_)
  exact lp ((r + u) + 1) 0 (by omega) (by omega) _ _ hP hD hS ls (lv_sub hl [0, 1, 2] rfl)
theorem x_Ls_beginSums {σ : oS} {r : Nat} {u : Nat} (h_r : σ 9 0 0 = nI r) (h_u : σ 10 0 0 = nI u) (hr4 : r ≤ 4) (hu4 : u ≤ 4) {n : Nat} (hn : σ 2 0 0 = nI n) (hn9 : n ≤ 5) (F : CallFix p m c cc nL s args (cw :: tt) own) (hG : Cond.methodLink own index y_Ls_beginSums ∈ tt) (hR : 3 + 1 ≤ R.frames ∧ 8 + (3 + 11) + 67 ≤ R.locals) (hK : va_K D vwCl (ot cI cL) s) (hP : va_P D vwCl (ow cI cL ad σ) H) (hD : va_D A (ow cI cL ad σ)) (hS : va_S A H0 H locs) (hA : ∀ q, H0.size ≤ q → A q) (hsz : ls.size = nL) (hW : (rest.map fun v => v.category).sum ≤ 8) (hcs : cells ≤ R.cells ∧ slots ≤ R.slots) (hdg : decode cc pc = .ok (.invokevirtual index, 3)) (kk : ∀ (H1 : Heap) (locs1 : List Loc), va_P D vwCl (ow cI cL ad (ls_b σ r n (r + u))) H1 → va_D A (ow cI cL ad (ls_b σ r n (r + u))) → va_S A H0 H1 locs1 → W p l e R s m args below meth c H1 locs1 cells slots Q (F0 m (pc + 3) ls (rest))) : W p l e R s m args below meth c H locs cells slots Q (F0 m pc ls (.ref (ad 1) :: .ref (ad 4) :: rest)) :=
  ok_VM (As := [.ref (ad 1)]) F (c_Ls_beginSums σ h_r h_u hr4 hu4 hn hn9) 1 (tt_V hG i_Ls_beginSums l_Ls_beginSums in9_Ls k_Ls_beginSums) rfl ⟨rfl, rfl⟩ (by decide +kernel) hR hK hP hD hS hA (4) 2 rfl rfl ow_4 rfl hsz rfl hW hcs hdg kk
set_option maxHeartbeats 4000000 in
set_option maxRecDepth 100000 in
theorem c_Ls_stillHold (σ : oS) {r : Nat} {u : Nat} (h_r : σ 9 0 0 = nI r) (h_u : σ 10 0 0 = nI u) (hr4 : r ≤ 4) (hu4 : u ≤ 4) {x : Int32} {j : Nat} (hj : x = nI j) (hj9 : j < 5) {y : Int32} : ok_MM l y_Ls_stillHold (Cond.code y_Ls_stillHold b_Ls_stillHold 4 (some .boolean) :: tt) { frames := 2, cells := 0, slots := 0, locals := 44 } D vwCl (ot cI cL) (ow cI cL ad σ) (ow cI cL ad ((ls_x r j y (r + u) 0 σ).1)) [.ref (ad 4), .int x, .int y] (some (.int (ls_x r j y (r + u) 0 σ).2)) := by
  refine ok_startM (cc := b_Ls_stillHold) (own := RLs) (maxL := 4) (ret := (some .boolean)) (by decide +kernel) rfl rfl (Nat.le_of_ble_eq_true rfl) ?_
  intro p e s m below meth c A F hr hlk hA hP hK hD hS ls hl
  have hl : lv_has ls 4 [(0, .ref (ad 4)), (1, .int x), (2, .int y)] := hl
  have hx := F.1
  have hb := F.2.1
  have lq : ∀ (f k : Nat), k ≤ u → u - k < f → ∀ τ : oS, (∀ c9, c9 ≠ 7 → τ c9 = σ c9) → ls_x r j y (r + u) 0 σ = ls_x r j y (r + u - (r + k)) (r + k) τ → ∀ (H : Heap) (locs : List Loc), va_P D vwCl (ow cI cL ad τ) H → va_D A (ow cI cL ad τ) → va_S A s.heap H locs → ∀ ls : Array Slot, lv_has ls 4 [(3, .int (nI k)), (0, .ref (ad 4)), (1, .int x), (2, .int y)] → W p l e { frames := 2, cells := 0, slots := 0, locals := 44 } s m ([.ref (ad 4), .int x, .int y] : List Value).toArray below meth c H locs 0 0 (MQ below (ok_qA D vwCl A (ow cI cL ad ((ls_x r j y (r + u) 0 σ).1)) (some (.int (ls_x r j y (r + u) 0 σ).2))) ([.ref (ad 4), .int x, .int y] : List Value).toArray s 0 0 A) (F0 m 34 ls []) := by
    intro f
    induction f with
    | zero => intro k h1 h2; omega
    | succ f ih =>
      intro k h1 h2 τ h7 heq H locs hP hD hS ls hl
      refine lv_iload_n hx hb d_Ls_stillHold_34 rfl (lv_at hl 0 rfl) ?_
      refine lv_aload_n hx hb d_Ls_stillHold_35 rfl (lv_at hl 1 rfl) ?_
      refine gf_Ls_cutCount F hK hP d_Ls_stillHold_36 ?_
      refine lv_icmp_ge (tgt := 64) hx hb d_Ls_stillHold_39 (by decide) (fun c1 => ?_) (fun c1 => ?_)
      · have hkn : k = u := by
          rw [h7 10 (by decide), h_u, nI_leI (by omega) (by omega)] at c1; omega
        subst hkn
        rw [Nat.sub_self, ls_x] at heq
        refine lv_iconst (v := 1) hx hb d_Ls_stillHold_64 (by decide) ?_
        exact ok_zretM F hr hlk (by rw [heq]; exact hP) (by rw [heq]; exact hD) hS (rfl) (by rw [heq]) d_Ls_stillHold_65
      · have hkn : k < u := by
          rw [h7 10 (by decide), h_u, nI_leI (by omega) (by omega)] at c1; omega
        have hli : ls_i r (r + k) = (k + 4) := by unfold ls_i; split <;> omega
        rw [show r + u - (r + k) = (r + u - ((r + k) + 1)) + 1 by omega, ls_x, hli] at heq
        refine lv_aload_n hx hb d_Ls_stillHold_42 rfl (lv_at hl 1 rfl) ?_
        refine gf_Ls_cuts F hK hP d_Ls_stillHold_43 ?_
        refine lv_iload_n hx hb d_Ls_stillHold_46 rfl (lv_at hl 0 rfl) ?_
        refine ok_aald F hK hP 6 1 ow_6 rfl (j := k) rfl (by omega) (by decide) rfl d_Ls_stillHold_47 ?_
        refine lv_iload_n hx hb d_Ls_stillHold_48 rfl (lv_at hl 2 rfl) ?_
        refine lv_iload_n hx hb d_Ls_stillHold_49 rfl (lv_at hl 3 rfl) ?_
        refine x_Li_stillHolds (i := (k + 4)) (by omega) (j := j) hj (by omega) F (tt3 17 rfl rfl) ⟨Nat.le_of_ble_eq_true rfl, Nat.le_of_ble_eq_true rfl⟩ hK hP hD hS hA hl.1 (Nat.le_of_ble_eq_true rfl) ⟨Nat.zero_le _, Nat.zero_le _⟩ d_Ls_stillHold_50 (fun H locs hP hD hS => ?_)
        refine lv_if_ne (tgt := 58) hx hb d_Ls_stillHold_53 (by decide) (fun c2 => ?_) (fun c2 => ?_)
        · rw [if_neg (show ¬ ls_v τ (k + 4) j y = 0 from c2)] at heq
          refine lv_iinc (v := nI (k + 1)) (lv' := [(3, .int (nI (k + 1))), (0, .ref (ad 4)), (1, .int x), (2, .int y)]) hx hb d_Ls_stillHold_58 hl (k := 0) rfl (nI_inc _) (by decide) rfl (fun ls hl => ?_)
          refine lv_goto (tgt := 34) hx hb d_Ls_stillHold_61 (by decide) ?_
          exact ih (k + 1) (by omega) (by omega) (ls_t τ (k + 4) j y) (fun c9 h9 => by rw [ls_t_c h9, h7 c9 h9]) (by rw [← Nat.add_assoc]; exact heq) H locs hP hD hS ls (lv_sub hl [0, 1, 2, 3] rfl)
        · rw [if_pos (show ls_v τ (k + 4) j y = 0 from c2)] at heq
          refine lv_iconst (v := 0) hx hb d_Ls_stillHold_56 (by decide) ?_
          exact ok_zretM F hr hlk (by rw [heq]; exact hP) (by rw [heq]; exact hD) hS (rfl) (by rw [heq]) d_Ls_stillHold_57
  have lp : ∀ (f k : Nat), k ≤ r → r - k < f → ∀ τ : oS, (∀ c9, c9 ≠ 7 → τ c9 = σ c9) → ls_x r j y (r + u) 0 σ = ls_x r j y (r + u - k) k τ → ∀ (H : Heap) (locs : List Loc), va_P D vwCl (ow cI cL ad τ) H → va_D A (ow cI cL ad τ) → va_S A s.heap H locs → ∀ ls : Array Slot, lv_has ls 4 [(3, .int (nI k)), (0, .ref (ad 4)), (1, .int x), (2, .int y)] → W p l e { frames := 2, cells := 0, slots := 0, locals := 44 } s m ([.ref (ad 4), .int x, .int y] : List Value).toArray below meth c H locs 0 0 (MQ below (ok_qA D vwCl A (ow cI cL ad ((ls_x r j y (r + u) 0 σ).1)) (some (.int (ls_x r j y (r + u) 0 σ).2))) ([.ref (ad 4), .int x, .int y] : List Value).toArray s 0 0 A) (F0 m 2 ls []) := by
    intro f
    induction f with
    | zero => intro k h1 h2; omega
    | succ f ih =>
      intro k h1 h2 τ h7 heq H locs hP hD hS ls hl
      refine lv_iload_n hx hb d_Ls_stillHold_2 rfl (lv_at hl 0 rfl) ?_
      refine lv_aload_n hx hb d_Ls_stillHold_3 rfl (lv_at hl 1 rfl) ?_
      refine gf_Ls_rowCount F hK hP d_Ls_stillHold_4 ?_
      refine lv_icmp_ge (tgt := 32) hx hb d_Ls_stillHold_7 (by decide) (fun c3 => ?_) (fun c3 => ?_)
      · have hkn : k = r := by
          rw [h7 9 (by decide), h_r, nI_leI (by omega) (by omega)] at c3; omega
        subst hkn
        refine lv_iconst (v := 0) hx hb d_Ls_stillHold_32 (by decide) ?_
        refine lv_istore_n (lv' := [(3, .int 0), (0, .ref (ad 4)), (1, .int x), (2, .int y)]) hx hb d_Ls_stillHold_33 rfl hl (by decide) rfl (fun ls hl => ?_)
        exact lq (u + 1) 0 (by omega) (by omega) τ h7 (by rw [Nat.add_zero]; exact heq) H locs hP hD hS ls (lv_sub hl [0, 1, 2, 3] rfl)
      · have hkn : k < r := by
          rw [h7 9 (by decide), h_r, nI_leI (by omega) (by omega)] at c3; omega
        have hli : ls_i r k = k := by unfold ls_i; split <;> omega
        rw [show r + u - k = (r + u - (k + 1)) + 1 by omega, ls_x, hli] at heq
        refine lv_aload_n hx hb d_Ls_stillHold_10 rfl (lv_at hl 1 rfl) ?_
        refine gf_Ls_rows F hK hP d_Ls_stillHold_11 ?_
        refine lv_iload_n hx hb d_Ls_stillHold_14 rfl (lv_at hl 0 rfl) ?_
        refine ok_aald F hK hP 5 1 ow_5 rfl (j := k) rfl (by omega) (by decide) rfl d_Ls_stillHold_15 ?_
        refine lv_iload_n hx hb d_Ls_stillHold_16 rfl (lv_at hl 2 rfl) ?_
        refine lv_iload_n hx hb d_Ls_stillHold_17 rfl (lv_at hl 3 rfl) ?_
        refine x_Li_stillHolds (i := k) (by omega) (j := j) hj (by omega) F (tt3 17 rfl rfl) ⟨Nat.le_of_ble_eq_true rfl, Nat.le_of_ble_eq_true rfl⟩ hK hP hD hS hA hl.1 (Nat.le_of_ble_eq_true rfl) ⟨Nat.zero_le _, Nat.zero_le _⟩ d_Ls_stillHold_18 (fun H locs hP hD hS => ?_)
        refine lv_if_ne (tgt := 26) hx hb d_Ls_stillHold_21 (by decide) (fun c4 => ?_) (fun c4 => ?_)
        · rw [if_neg (show ¬ ls_v τ k j y = 0 from c4)] at heq
          refine lv_iinc (v := nI (k + 1)) (lv' := [(3, .int (nI (k + 1))), (0, .ref (ad 4)), (1, .int x), (2, .int y)]) hx hb d_Ls_stillHold_26 hl (k := 0) rfl (nI_inc _) (by decide) rfl (fun ls hl => ?_)
          refine lv_goto (tgt := 2) hx hb d_Ls_stillHold_29 (by decide) ?_
          exact ih (k + 1) (by omega) (by omega) (ls_t τ k j y) (fun c9 h9 => by rw [ls_t_c h9, h7 c9 h9]) (by exact heq) H locs hP hD hS ls (lv_sub hl [0, 1, 2, 3] rfl)
        · rw [if_pos (show ls_v τ k j y = 0 from c4)] at heq
          refine lv_iconst (v := 0) hx hb d_Ls_stillHold_24 (by decide) ?_
          exact ok_zretM F hr hlk (by rw [heq]; exact hP) (by rw [heq]; exact hD) hS (rfl) (by rw [heq]) d_Ls_stillHold_25
  refine lv_iconst (v := 0) hx hb d_Ls_stillHold_0 (by decide) ?_
  refine lv_istore_n (lv' := [(3, .int 0), (0, .ref (ad 4)), (1, .int x), (2, .int y)]) hx hb d_Ls_stillHold_1 rfl hl (by decide) rfl (fun ls hl => ?_)
  exact lp (r + 1) 0 (by omega) (by omega) σ (fun _ _ => rfl) rfl _ _ hP hD hS ls (lv_sub hl [0, 1, 2, 3] rfl)
theorem x_Ls_stillHold {σ : oS} {r : Nat} {u : Nat} (h_r : σ 9 0 0 = nI r) (h_u : σ 10 0 0 = nI u) (hr4 : r ≤ 4) (hu4 : u ≤ 4) {x : Int32} {j : Nat} (hj : x = nI j) (hj9 : j < 5) {y : Int32} (F : CallFix p m c cc nL s args (cw :: tt) own) (hG : Cond.methodLink own index y_Ls_stillHold ∈ tt) (hR : 2 + 1 ≤ R.frames ∧ 8 + (4 + 11) + 44 ≤ R.locals) (hK : va_K D vwCl (ot cI cL) s) (hP : va_P D vwCl (ow cI cL ad σ) H) (hD : va_D A (ow cI cL ad σ)) (hS : va_S A H0 H locs) (hA : ∀ q, H0.size ≤ q → A q) (hsz : ls.size = nL) (hW : (rest.map fun v => v.category).sum ≤ 8) (hcs : cells ≤ R.cells ∧ slots ≤ R.slots) (hdg : decode cc pc = .ok (.invokevirtual index, 3)) (kk : ∀ (H1 : Heap) (locs1 : List Loc), va_P D vwCl (ow cI cL ad ((ls_x r j y (r + u) 0 σ).1)) H1 → va_D A (ow cI cL ad ((ls_x r j y (r + u) 0 σ).1)) → va_S A H0 H1 locs1 → W p l e R s m args below meth c H1 locs1 cells slots Q (F0 m (pc + 3) ls (.int (ls_x r j y (r + u) 0 σ).2 :: rest))) : W p l e R s m args below meth c H locs cells slots Q (F0 m pc ls (.int y :: .int x :: .ref (ad 4) :: rest)) :=
  ok_VM (As := [.int x, .int y]) F (c_Ls_stillHold σ h_r h_u hr4 hu4 hj hj9) 2 (tt_V hG i_Ls_stillHold l_Ls_stillHold in9_Ls k_Ls_stillHold) rfl ⟨rfl, rfl⟩ (by decide +kernel) hR hK hP hD hS hA (4) 2 rfl rfl ow_4 rfl hsz rfl hW hcs hdg kk
end
