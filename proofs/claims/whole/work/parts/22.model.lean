-- the reference's small words
def mo_in (x a b : Int32) : Int32 := if x < a then 0 else if b < x then 0 else 1
theorem mo_in_b {x a b : Int32} : narrow .boolean (.int (mo_in x a b)) = .int (mo_in x a b) := by
  unfold mo_in
  split
  · rfl
  · split <;> rfl
def mo_g (x y : Int32) : Int32 := if x = 0 then 1 else if y = 0 then 2 else 0
def mo_a (σ : oS) : oS := u3 (u3 (u3 (u3 (u3 σ 5 0 0 0) 19 0 0 (σ 11 0 0)) 6 0 0 0) 7 0 0 0) 8 0 0 0
def mo_z (σ : oS) : Nat → oS
  | 0 => σ
  | k + 1 => u3 (mo_z σ k) 17 0 k 0
theorem mo_z_c {σ : oS} {k c : Nat} (h : c ≠ 17) : mo_z σ k c = σ c := by
  induction k with
  | zero => rfl
  | succ k ih => rw [mo_z, u3_c h, ih]
def mo_k (σ : oS) (r k : Nat) : Int32 := if k < r then σ 12 0 k else 0
def mo_A (σ : oS) (k : Nat) : Nat := (σ 15 0 k).toNatClampNeg
def mo_B (σ : oS) (k : Nat) : Nat := (σ 16 0 k).toNatClampNeg
/-- the cuts' columns are columns -/
def mo_ok (σ : oS) (u : Nat) : Prop := ∀ k, k < u → σ 15 0 k = nI (mo_A σ k) ∧ mo_A σ k < 5 ∧ σ 16 0 k = nI (mo_B σ k) ∧ mo_B σ k < 5
def mo_r (σ : oS) (r k : Nat) : Int32 := if k < r then σ 13 0 k else if σ 11 0 (mo_A σ (k - r)) ≤ σ 11 0 (mo_B σ (k - r)) then σ 11 0 (mo_B σ (k - r)) else σ 11 0 (mo_A σ (k - r))
def mo_f (σ : oS) (r k j : Nat) : Int32 := if k < r then σ 14 0 (5 * k + j) else if σ 15 0 (k - r) = nI j then 1 else if σ 16 0 (k - r) = nI j then 1 else 0
theorem mo_ix {k j : Nat} : (5 : Int32) * nI k + nI j = nI (5 * k + j) := by rw [show (5 : Int32) = nI 5 from rfl, pk_mul, nI_add]
def mo_s1 (σ : oS) (r k w : Nat) : Nat → Int32
  | 0 => 0
  | c + 1 => mo_s1 σ r k w c + mo_f σ r k c * σ (w + 9) 0 c
def mo_y (σ : oS) (r k c : Nat) (s : Int32) : Int32 := if mo_k σ r k = 0 then (if 0 ≤ mo_f σ r k c * σ 11 0 c then s else s + mo_f σ r k c * σ 11 0 c) else (if mo_f σ r k c * σ 11 0 c ≤ 0 then s else s + mo_f σ r k c * σ 11 0 c)
def mo_s2 (σ : oS) (r k m : Nat) (s : Int32) : Nat → Int32
  | 0 => s
  | d + 1 => mo_y σ r k (m + d) (mo_s2 σ r k m s d)
def mo_h (σ : oS) (r k : Nat) (s : Int32) : Int32 := if mo_k σ r k = 0 then (if mo_r σ r k < s then 0 else 1) else (if s < mo_r σ r k then 0 else 1)
theorem mo_h_b {σ : oS} {r k : Nat} {s : Int32} : narrow .boolean (.int (mo_h σ r k s)) = .int (mo_h σ r k s) := by
  unfold mo_h
  split <;> split <;> rfl
def mo_w (σ : oS) : Nat → Int32
  | 0 => 0
  | c + 1 => mo_w σ c + σ 10 0 c * σ 20 0 c
section
variable {l : Launch} {D : va_G} {cI cZ : ClassId} {ad : Nat → Nat}
variable {p : Program} {e : Env} {R : Room} {s : State} {m : MethodId} {args : Array Value} {below : List Frame} {meth : Method} {c : Code} {H : Heap} {locs : List Loc} {cells slots : Nat} {Q : State → Prop} {cc : ByteArray} {pc nL index : Nat} {ls : Array Slot} {rest : List Value} {A : Nat → Prop} {H0 : Heap} {cw : Cond} {own : String}
set_option maxHeartbeats 4000000 in
set_option maxRecDepth 100000 in
theorem c_Mo_thrown (σ : oS) : ok_MR l y_Mo_thrown (Cond.code y_Mo_thrown b_Mo_thrown 1 (some .int) :: tt) { frames := 0, cells := 0, slots := 0, locals := 0 } D vwCl (mt cI cZ) (mw cI cZ ad σ) [.ref (ad 0)] (some (.int (σ 0 0 0))) := by
  refine ok_startR (cc := b_Mo_thrown) (own := RMo) (maxL := 1) (ret := (some .int)) (by decide +kernel) rfl rfl (Nat.le_of_ble_eq_true rfl) ?_
  intro p e s m below meth c F hr hlk hP hK ls hl
  have hl : lv_has ls 1 [(0, .ref (ad 0))] := hl
  have hx := F.1
  have hb := F.2.1
  refine lv_aload_n hx hb d_Mo_thrown_0 rfl (lv_at hl 0 rfl) ?_
  refine gf_Mo_thrown F hK hP d_Mo_thrown_1 ?_
  exact ok_iretR F hr hlk (rfl) d_Mo_thrown_4
theorem x_Mo_thrown {σ : oS} (F : CallFix p m c cc nL s args (cw :: tt) own) (hG : Cond.methodLink own index y_Mo_thrown ∈ tt) (hR : 0 + 1 ≤ R.frames ∧ 8 + (1 + 11) + 0 ≤ R.locals) (hK : va_K D vwCl (mt cI cZ) s) (hP : va_P D vwCl (mw cI cZ ad σ) H) (hsz : ls.size = nL) (hW : (rest.map fun v => v.category).sum ≤ 8) (hcs : cells ≤ R.cells ∧ slots ≤ R.slots) (hdg : decode cc pc = .ok (.invokevirtual index, 3)) (kk : W p l e R s m args below meth c H locs cells slots Q (F0 m (pc + 3) ls (.int (σ 0 0 0) :: rest))) : W p l e R s m args below meth c H locs cells slots Q (F0 m pc ls (.ref (ad 0) :: rest)) :=
  ok_VR (As := []) F (c_Mo_thrown σ) 0 (tt_V hG i_Mo_thrown l_Mo_thrown in9_Mo k_Mo_thrown) rfl ⟨rfl, rfl⟩ (by decide +kernel) hR hK hP (0) 6 rfl rfl mw_0 rfl hsz rfl hW hcs hdg kk
set_option maxHeartbeats 4000000 in
set_option maxRecDepth 100000 in
theorem c_Mo_in (σ : oS) {x : Int32} {y : Int32} {v : Int32} : ok_MR l y_Mo_in (Cond.code y_Mo_in b_Mo_in 3 (some .boolean) :: tt) { frames := 0, cells := 0, slots := 0, locals := 0 } D vwCl (mt cI cZ) (mw cI cZ ad σ) [.int x, .int y, .int v] (some (.int (mo_in x y v))) := by
  refine ok_startR (cc := b_Mo_in) (own := RMo) (maxL := 3) (ret := (some .boolean)) (by decide +kernel) rfl rfl (Nat.le_of_ble_eq_true rfl) ?_
  intro p e s m below meth c F hr hlk hP hK ls hl
  have hl : lv_has ls 3 [(0, .int x), (1, .int y), (2, .int v)] := hl
  have hx := F.1
  have hb := F.2.1
  refine lv_iload_n hx hb d_Mo_in_0 rfl (lv_at hl 0 rfl) ?_
  refine lv_iload_n hx hb d_Mo_in_1 rfl (lv_at hl 1 rfl) ?_
  refine lv_icmp_lt (tgt := 14) hx hb d_Mo_in_2 (by decide) (fun c1 => ?_) (fun c1 => ?_)
  · refine lv_iconst (v := 0) hx hb d_Mo_in_14 (by decide) ?_
    exact ok_zretR F hr hlk (rfl) (by simp [mo_in, c1]) d_Mo_in_15
  · refine lv_iload_n hx hb d_Mo_in_5 rfl (lv_at hl 0 rfl) ?_
    refine lv_iload_n hx hb d_Mo_in_6 rfl (lv_at hl 2 rfl) ?_
    refine lv_icmp_gt (tgt := 14) hx hb d_Mo_in_7 (by decide) (fun c2 => ?_) (fun c2 => ?_)
    · refine lv_iconst (v := 0) hx hb d_Mo_in_14 (by decide) ?_
      exact ok_zretR F hr hlk (rfl) (by simp [mo_in, c1, c2]) d_Mo_in_15
    · refine lv_iconst (v := 1) hx hb d_Mo_in_10 (by decide) ?_
      refine lv_goto (tgt := 15) hx hb d_Mo_in_11 (by decide) ?_
      exact ok_zretR F hr hlk (rfl) (by simp [mo_in, c1, c2]) d_Mo_in_15
theorem x_Mo_in {σ : oS} {x : Int32} {y : Int32} {v : Int32} (F : CallFix p m c cc nL s args (cw :: tt) RMo) (hG : Cond.methodLink RMo index y_Mo_in ∈ tt) (hR : 0 + 1 ≤ R.frames ∧ 8 + (3 + 11) + 0 ≤ R.locals) (hK : va_K D vwCl (mt cI cZ) s) (hP : va_P D vwCl (mw cI cZ ad σ) H) (hsz : ls.size = nL) (hW : (rest.map fun v => v.category).sum ≤ 8) (hcs : cells ≤ R.cells ∧ slots ≤ R.slots) (hdg : decode cc pc = .ok (.invokestatic index, 3)) (kk : W p l e R s m args below meth c H locs cells slots Q (F0 m (pc + 3) ls (.int (mo_in x y v) :: rest))) : W p l e R s m args below meth c H locs cells slots Q (F0 m pc ls (.int v :: .int y :: .int x :: rest)) :=
  ok_SR (As := [.int x, .int y, .int v]) F (c_Mo_in σ) 3 (tt_S hG s_Mo_in in9_Mo k_Mo_in) rfl ⟨rfl, rfl⟩ (by decide +kernel) hR hK hP rfl hsz rfl hW hcs hdg kk
set_option maxHeartbeats 4000000 in
set_option maxRecDepth 100000 in
theorem c_Mo_goes (σ : oS) {x : Int32} {y : Int32} : ok_MM l y_Mo_goes (Cond.code y_Mo_goes b_Mo_goes 3 (some .boolean) :: tt) { frames := 0, cells := 0, slots := 0, locals := 0 } D vwCl (mt cI cZ) (mw cI cZ ad σ) (mw cI cZ ad (u3 σ 0 0 0 (mo_g x y))) [.ref (ad 0), .int x, .int y] (some (.int (if mo_g x y = 0 then 1 else 0))) := by
  refine ok_startM (cc := b_Mo_goes) (own := RMo) (maxL := 3) (ret := (some .boolean)) (by decide +kernel) rfl rfl (Nat.le_of_ble_eq_true rfl) ?_
  intro p e s m below meth c A F hr hlk hA hP hK hD hS ls hl
  have hl : lv_has ls 3 [(0, .ref (ad 0)), (1, .int x), (2, .int y)] := hl
  have hx := F.1
  have hb := F.2.1
  refine lv_aload_n hx hb d_Mo_goes_0 rfl (lv_at hl 0 rfl) ?_
  refine lv_iload_n hx hb d_Mo_goes_1 rfl (lv_at hl 1 rfl) ?_
  refine lv_if_ne (tgt := 9) hx hb d_Mo_goes_2 (by decide) (fun c1 => ?_) (fun c1 => ?_)
  · refine lv_iload_n hx hb d_Mo_goes_9 rfl (lv_at hl 2 rfl) ?_
    refine lv_if_ne (tgt := 17) hx hb d_Mo_goes_10 (by decide) (fun c2 => ?_) (fun c2 => ?_)
    · refine lv_iconst (v := 0) hx hb d_Mo_goes_17 (by decide) ?_
      refine pf_Mo_thrown F hK hP hD hS d_Mo_goes_18 (fun H locs hP hD hS => ?_)
      have ew : u3 σ 0 0 0 0 = u3 σ 0 0 0 (mo_g x y) := by simp [mo_g, c1, c2]
      rw [ew] at hP hD
      clear ew
      refine lv_aload_n hx hb d_Mo_goes_21 rfl (lv_at hl 0 rfl) ?_
      refine gf_Mo_thrown F hK hP d_Mo_goes_22 ?_
      refine lv_if_ne (tgt := 32) hx hb d_Mo_goes_25 (by decide) (fun c3 => ?_) (fun c3 => ?_)
      · rw [u3_s] at c3
        refine lv_iconst (v := 0) hx hb d_Mo_goes_32 (by decide) ?_
        exact ok_zretM F hr hlk hP hD hS (rfl) (by simp [c3]) d_Mo_goes_33
      · rw [u3_s] at c3
        refine lv_iconst (v := 1) hx hb d_Mo_goes_28 (by decide) ?_
        refine lv_goto (tgt := 33) hx hb d_Mo_goes_29 (by decide) ?_
        exact ok_zretM F hr hlk hP hD hS (rfl) (by simp [c3]) d_Mo_goes_33
    · refine lv_iconst (v := 2) hx hb d_Mo_goes_13 (by decide) ?_
      refine lv_goto (tgt := 18) hx hb d_Mo_goes_14 (by decide) ?_
      refine pf_Mo_thrown F hK hP hD hS d_Mo_goes_18 (fun H locs hP hD hS => ?_)
      have ew : u3 σ 0 0 0 2 = u3 σ 0 0 0 (mo_g x y) := by simp [mo_g, c1, c2]
      rw [ew] at hP hD
      clear ew
      refine lv_aload_n hx hb d_Mo_goes_21 rfl (lv_at hl 0 rfl) ?_
      refine gf_Mo_thrown F hK hP d_Mo_goes_22 ?_
      refine lv_if_ne (tgt := 32) hx hb d_Mo_goes_25 (by decide) (fun c4 => ?_) (fun c4 => ?_)
      · rw [u3_s] at c4
        refine lv_iconst (v := 0) hx hb d_Mo_goes_32 (by decide) ?_
        exact ok_zretM F hr hlk hP hD hS (rfl) (by simp [c4]) d_Mo_goes_33
      · rw [u3_s] at c4
        refine lv_iconst (v := 1) hx hb d_Mo_goes_28 (by decide) ?_
        refine lv_goto (tgt := 33) hx hb d_Mo_goes_29 (by decide) ?_
        exact ok_zretM F hr hlk hP hD hS (rfl) (by simp [c4]) d_Mo_goes_33
  · refine lv_iconst (v := 1) hx hb d_Mo_goes_5 (by decide) ?_
    refine lv_goto (tgt := 18) hx hb d_Mo_goes_6 (by decide) ?_
    refine pf_Mo_thrown F hK hP hD hS d_Mo_goes_18 (fun H locs hP hD hS => ?_)
    have ew : u3 σ 0 0 0 1 = u3 σ 0 0 0 (mo_g x y) := by simp [mo_g, c1]
    rw [ew] at hP hD
    clear ew
    refine lv_aload_n hx hb d_Mo_goes_21 rfl (lv_at hl 0 rfl) ?_
    refine gf_Mo_thrown F hK hP d_Mo_goes_22 ?_
    refine lv_if_ne (tgt := 32) hx hb d_Mo_goes_25 (by decide) (fun c5 => ?_) (fun c5 => ?_)
    · rw [u3_s] at c5
      refine lv_iconst (v := 0) hx hb d_Mo_goes_32 (by decide) ?_
      exact ok_zretM F hr hlk hP hD hS (rfl) (by simp [c5]) d_Mo_goes_33
    · rw [u3_s] at c5
      refine lv_iconst (v := 1) hx hb d_Mo_goes_28 (by decide) ?_
      refine lv_goto (tgt := 33) hx hb d_Mo_goes_29 (by decide) ?_
      exact ok_zretM F hr hlk hP hD hS (rfl) (by simp [c5]) d_Mo_goes_33
theorem x_Mo_goes {σ : oS} {x : Int32} {y : Int32} (F : CallFix p m c cc nL s args (cw :: tt) own) (hG : Cond.methodLink own index y_Mo_goes ∈ tt) (hR : 0 + 1 ≤ R.frames ∧ 8 + (3 + 11) + 0 ≤ R.locals) (hK : va_K D vwCl (mt cI cZ) s) (hP : va_P D vwCl (mw cI cZ ad σ) H) (hD : va_D A (mw cI cZ ad σ)) (hS : va_S A H0 H locs) (hA : ∀ q, H0.size ≤ q → A q) (hsz : ls.size = nL) (hW : (rest.map fun v => v.category).sum ≤ 8) (hcs : cells ≤ R.cells ∧ slots ≤ R.slots) (hdg : decode cc pc = .ok (.invokevirtual index, 3)) (kk : ∀ (H1 : Heap) (locs1 : List Loc), va_P D vwCl (mw cI cZ ad (u3 σ 0 0 0 (mo_g x y))) H1 → va_D A (mw cI cZ ad (u3 σ 0 0 0 (mo_g x y))) → va_S A H0 H1 locs1 → W p l e R s m args below meth c H1 locs1 cells slots Q (F0 m (pc + 3) ls (.int (if mo_g x y = 0 then 1 else 0) :: rest))) : W p l e R s m args below meth c H locs cells slots Q (F0 m pc ls (.int y :: .int x :: .ref (ad 0) :: rest)) :=
  ok_VM (As := [.int x, .int y]) F (c_Mo_goes σ) 2 (tt_V hG i_Mo_goes l_Mo_goes in9_Mo k_Mo_goes) rfl ⟨rfl, rfl⟩ (by decide +kernel) hR hK hP hD hS hA (0) 6 rfl rfl mw_0 rfl hsz rfl hW hcs hdg kk
set_option maxHeartbeats 4000000 in
set_option maxRecDepth 100000 in
theorem c_Mo_isColumn (σ : oS) {x : Int32} : ok_MR l y_Mo_isColumn (Cond.code y_Mo_isColumn b_Mo_isColumn 2 (some .boolean) :: tt) { frames := 1, cells := 0, slots := 0, locals := 22 } D vwCl (mt cI cZ) (mw cI cZ ad σ) [.ref (ad 0), .int x] (some (.int (mo_in x 0 (σ 1 0 0 - 1)))) := by
  refine ok_startR (cc := b_Mo_isColumn) (own := RMo) (maxL := 2) (ret := (some .boolean)) (by decide +kernel) rfl rfl (Nat.le_of_ble_eq_true rfl) ?_
  intro p e s m below meth c F hr hlk hP hK ls hl
  have hl : lv_has ls 2 [(0, .ref (ad 0)), (1, .int x)] := hl
  have hx := F.1
  have hb := F.2.1
  refine lv_iload_n hx hb d_Mo_isColumn_0 rfl (lv_at hl 1 rfl) ?_
  refine lv_iconst (v := 0) hx hb d_Mo_isColumn_1 (by decide) ?_
  refine lv_aload_n hx hb d_Mo_isColumn_2 rfl (lv_at hl 0 rfl) ?_
  refine gf_Mo_columns F hK hP d_Mo_isColumn_3 ?_
  refine lv_iconst (v := 1) hx hb d_Mo_isColumn_6 (by decide) ?_
  refine lv_isub hx hb d_Mo_isColumn_7 ?_
  refine x_Mo_in F (tt3 227 rfl rfl) ⟨Nat.le_of_ble_eq_true rfl, Nat.le_of_ble_eq_true rfl⟩ hK hP hl.1 (Nat.le_of_ble_eq_true rfl) ⟨Nat.zero_le _, Nat.zero_le _⟩ d_Mo_isColumn_8 ?_
  exact ok_zretR F hr hlk (mo_in_b) (rfl) d_Mo_isColumn_11
theorem x_Mo_isColumn {σ : oS} {x : Int32} (F : CallFix p m c cc nL s args (cw :: tt) own) (hG : Cond.methodLink own index y_Mo_isColumn ∈ tt) (hR : 1 + 1 ≤ R.frames ∧ 8 + (2 + 11) + 22 ≤ R.locals) (hK : va_K D vwCl (mt cI cZ) s) (hP : va_P D vwCl (mw cI cZ ad σ) H) (hsz : ls.size = nL) (hW : (rest.map fun v => v.category).sum ≤ 8) (hcs : cells ≤ R.cells ∧ slots ≤ R.slots) (hdg : decode cc pc = .ok (.invokevirtual index, 3)) (kk : W p l e R s m args below meth c H locs cells slots Q (F0 m (pc + 3) ls (.int (mo_in x 0 (σ 1 0 0 - 1)) :: rest))) : W p l e R s m args below meth c H locs cells slots Q (F0 m pc ls (.int x :: .ref (ad 0) :: rest)) :=
  ok_VR (As := [.int x]) F (c_Mo_isColumn σ) 1 (tt_V hG i_Mo_isColumn l_Mo_isColumn in9_Mo k_Mo_isColumn) rfl ⟨rfl, rfl⟩ (by decide +kernel) hR hK hP (0) 6 rfl rfl mw_0 rfl hsz rfl hW hcs hdg kk
set_option maxHeartbeats 4000000 in
set_option maxRecDepth 100000 in
theorem c_Mo_isRow (σ : oS) {x : Int32} : ok_MR l y_Mo_isRow (Cond.code y_Mo_isRow b_Mo_isRow 2 (some .boolean) :: tt) { frames := 1, cells := 0, slots := 0, locals := 22 } D vwCl (mt cI cZ) (mw cI cZ ad σ) [.ref (ad 0), .int x] (some (.int (mo_in x 0 (σ 2 0 0 - 1)))) := by
  refine ok_startR (cc := b_Mo_isRow) (own := RMo) (maxL := 2) (ret := (some .boolean)) (by decide +kernel) rfl rfl (Nat.le_of_ble_eq_true rfl) ?_
  intro p e s m below meth c F hr hlk hP hK ls hl
  have hl : lv_has ls 2 [(0, .ref (ad 0)), (1, .int x)] := hl
  have hx := F.1
  have hb := F.2.1
  refine lv_iload_n hx hb d_Mo_isRow_0 rfl (lv_at hl 1 rfl) ?_
  refine lv_iconst (v := 0) hx hb d_Mo_isRow_1 (by decide) ?_
  refine lv_aload_n hx hb d_Mo_isRow_2 rfl (lv_at hl 0 rfl) ?_
  refine gf_Mo_rows F hK hP d_Mo_isRow_3 ?_
  refine lv_iconst (v := 1) hx hb d_Mo_isRow_6 (by decide) ?_
  refine lv_isub hx hb d_Mo_isRow_7 ?_
  refine x_Mo_in F (tt3 227 rfl rfl) ⟨Nat.le_of_ble_eq_true rfl, Nat.le_of_ble_eq_true rfl⟩ hK hP hl.1 (Nat.le_of_ble_eq_true rfl) ⟨Nat.zero_le _, Nat.zero_le _⟩ d_Mo_isRow_8 ?_
  exact ok_zretR F hr hlk (mo_in_b) (rfl) d_Mo_isRow_11
theorem x_Mo_isRow {σ : oS} {x : Int32} (F : CallFix p m c cc nL s args (cw :: tt) own) (hG : Cond.methodLink own index y_Mo_isRow ∈ tt) (hR : 1 + 1 ≤ R.frames ∧ 8 + (2 + 11) + 22 ≤ R.locals) (hK : va_K D vwCl (mt cI cZ) s) (hP : va_P D vwCl (mw cI cZ ad σ) H) (hsz : ls.size = nL) (hW : (rest.map fun v => v.category).sum ≤ 8) (hcs : cells ≤ R.cells ∧ slots ≤ R.slots) (hdg : decode cc pc = .ok (.invokevirtual index, 3)) (kk : W p l e R s m args below meth c H locs cells slots Q (F0 m (pc + 3) ls (.int (mo_in x 0 (σ 2 0 0 - 1)) :: rest))) : W p l e R s m args below meth c H locs cells slots Q (F0 m pc ls (.int x :: .ref (ad 0) :: rest)) :=
  ok_VR (As := [.int x]) F (c_Mo_isRow σ) 1 (tt_V hG i_Mo_isRow l_Mo_isRow in9_Mo k_Mo_isRow) rfl ⟨rfl, rfl⟩ (by decide +kernel) hR hK hP (0) 6 rfl rfl mw_0 rfl hsz rfl hW hcs hdg kk
set_option maxHeartbeats 4000000 in
set_option maxRecDepth 100000 in
theorem c_Mo_anew (σ : oS) : ok_MM l y_Mo_anew (Cond.code y_Mo_anew b_Mo_anew 1 none :: tt) { frames := 0, cells := 0, slots := 0, locals := 0 } D vwCl (mt cI cZ) (mw cI cZ ad σ) (mw cI cZ ad (mo_a σ)) [.ref (ad 0)] none := by
  refine ok_startM (cc := b_Mo_anew) (own := RMo) (maxL := 1) (ret := none) (by decide +kernel) rfl rfl (Nat.le_of_ble_eq_true rfl) ?_
  intro p e s m below meth c A F hr hlk hA hP hK hD hS ls hl
  have hl : lv_has ls 1 [(0, .ref (ad 0))] := hl
  have hx := F.1
  have hb := F.2.1
  refine lv_aload_n hx hb d_Mo_anew_0 rfl (lv_at hl 0 rfl) ?_
  refine lv_iconst (v := 0) hx hb d_Mo_anew_1 (by decide) ?_
  refine pf_Mo_depth F hK hP hD hS d_Mo_anew_2 (fun H locs hP hD hS => ?_)
  refine lv_aload_n hx hb d_Mo_anew_5 rfl (lv_at hl 0 rfl) ?_
  refine gf_Mo_next F hK hP d_Mo_anew_6 ?_
  refine lv_iconst (v := 0) hx hb d_Mo_anew_9 (by decide) ?_
  refine lv_aload_n hx hb d_Mo_anew_10 rfl (lv_at hl 0 rfl) ?_
  refine gf_Mo_top F hK hP d_Mo_anew_11 ?_
  refine lv_iconst (v := 0) hx hb d_Mo_anew_14 (by decide) ?_
  refine im_11 (j := 0) F hK hP (by decide) (by omega) d_Mo_anew_15 ?_
  refine sm_19 (j := 0) F hK hP hD hS (by decide) (by omega) d_Mo_anew_16 (fun H locs hP hD hS => ?_)
  refine lv_aload_n hx hb d_Mo_anew_17 rfl (lv_at hl 0 rfl) ?_
  refine lv_iconst (v := 0) hx hb d_Mo_anew_18 (by decide) ?_
  refine pf_Mo_ended F hK hP hD hS (by rfl) (by rfl) d_Mo_anew_19 (fun H locs hP hD hS => ?_)
  refine lv_aload_n hx hb d_Mo_anew_22 rfl (lv_at hl 0 rfl) ?_
  refine lv_iconst (v := 0) hx hb d_Mo_anew_23 (by decide) ?_
  refine pf_Mo_found F hK hP hD hS (by rfl) (by rfl) d_Mo_anew_24 (fun H locs hP hD hS => ?_)
  refine lv_aload_n hx hb d_Mo_anew_27 rfl (lv_at hl 0 rfl) ?_
  refine lv_iconst (v := 0) hx hb d_Mo_anew_28 (by decide) ?_
  refine pf_Mo_steps F hK hP hD hS d_Mo_anew_29 (fun H locs hP hD hS => ?_)
  have ew : u3 (u3 (u3 (u3 (u3 σ 5 0 0 0) 19 0 0 ((u3 σ 5 0 0 0) 11 0 0)) 6 0 0 0) 7 0 0 0) 8 0 0 0 = mo_a σ := by rfl
  rw [ew] at hP hD
  clear ew
  exact ok_vretM F hr hlk hP hD hS d_Mo_anew_32
theorem x_Mo_anew {σ : oS} (F : CallFix p m c cc nL s args (cw :: tt) own) (hG : Cond.methodLink own index y_Mo_anew ∈ tt) (hR : 0 + 1 ≤ R.frames ∧ 8 + (1 + 11) + 0 ≤ R.locals) (hK : va_K D vwCl (mt cI cZ) s) (hP : va_P D vwCl (mw cI cZ ad σ) H) (hD : va_D A (mw cI cZ ad σ)) (hS : va_S A H0 H locs) (hA : ∀ q, H0.size ≤ q → A q) (hsz : ls.size = nL) (hW : (rest.map fun v => v.category).sum ≤ 8) (hcs : cells ≤ R.cells ∧ slots ≤ R.slots) (hdg : decode cc pc = .ok (.invokevirtual index, 3)) (kk : ∀ (H1 : Heap) (locs1 : List Loc), va_P D vwCl (mw cI cZ ad (mo_a σ)) H1 → va_D A (mw cI cZ ad (mo_a σ)) → va_S A H0 H1 locs1 → W p l e R s m args below meth c H1 locs1 cells slots Q (F0 m (pc + 3) ls (rest))) : W p l e R s m args below meth c H locs cells slots Q (F0 m pc ls (.ref (ad 0) :: rest)) :=
  ok_VM (As := []) F (c_Mo_anew σ) 0 (tt_V hG i_Mo_anew l_Mo_anew in9_Mo k_Mo_anew) rfl ⟨rfl, rfl⟩ (by decide +kernel) hR hK hP hD hS hA (0) 6 rfl rfl mw_0 rfl hsz rfl hW hcs hdg kk
set_option maxHeartbeats 4000000 in
set_option maxRecDepth 100000 in
theorem c_Mo_noMultipliers (σ : oS) : ok_MM l y_Mo_noMultipliers (Cond.code y_Mo_noMultipliers b_Mo_noMultipliers 2 none :: tt) { frames := 0, cells := 0, slots := 0, locals := 0 } D vwCl (mt cI cZ) (mw cI cZ ad σ) (mw cI cZ ad (mo_z σ 8)) [.ref (ad 0)] none := by
  refine ok_startM (cc := b_Mo_noMultipliers) (own := RMo) (maxL := 2) (ret := none) (by decide +kernel) rfl rfl (Nat.le_of_ble_eq_true rfl) ?_
  intro p e s m below meth c A F hr hlk hA hP hK hD hS ls hl
  have hl : lv_has ls 2 [(0, .ref (ad 0))] := hl
  have hx := F.1
  have hb := F.2.1
  have lp : ∀ (f k : Nat), k ≤ 8 → 8 - k < f → ∀ (H : Heap) (locs : List Loc), va_P D vwCl (mw cI cZ ad (mo_z σ k)) H → va_D A (mw cI cZ ad (mo_z σ k)) → va_S A s.heap H locs → ∀ ls : Array Slot, lv_has ls 2 [(1, .int (nI k)), (0, .ref (ad 0))] → W p l e { frames := 0, cells := 0, slots := 0, locals := 0 } s m ([.ref (ad 0)] : List Value).toArray below meth c H locs 0 0 (MQ below (ok_qA D vwCl A (mw cI cZ ad (mo_z σ 8)) none) ([.ref (ad 0)] : List Value).toArray s 0 0 A) (F0 m 2 ls []) := by
    intro f
    induction f with
    | zero => intro k h1 h2; omega
    | succ f ih =>
      intro k h1 h2 H locs hP hD hS ls hl
      refine lv_iload_n hx hb d_Mo_noMultipliers_2 rfl (lv_at hl 0 rfl) ?_
      refine lv_bipush (v := 8) hx hb d_Mo_noMultipliers_3 (by decide) ?_
      refine lv_icmp_ge (tgt := 21) hx hb d_Mo_noMultipliers_5 (by decide) (fun c1 => ?_) (fun c1 => ?_)
      · have hkn : 8 = k := by
          rw [show (8 : Int32) = nI 8 from rfl, nI_leI (by omega) (by omega)] at c1; omega
        subst hkn
        exact ok_vretM F hr hlk hP hD hS d_Mo_noMultipliers_21
      · have hkn : k < 8 := by
          rw [show (8 : Int32) = nI 8 from rfl, nI_leI (by omega) (by omega)] at c1; omega
        refine lv_aload_n hx hb d_Mo_noMultipliers_8 rfl (lv_at hl 1 rfl) ?_
        refine gf_Mo_multiplier F hK hP d_Mo_noMultipliers_9 ?_
        refine lv_iload_n hx hb d_Mo_noMultipliers_12 rfl (lv_at hl 0 rfl) ?_
        refine lv_iconst (v := 0) hx hb d_Mo_noMultipliers_13 (by decide) ?_
        refine sm_17 (j := k) F hK hP hD hS rfl (by omega) d_Mo_noMultipliers_14 (fun H locs hP hD hS => ?_)
        refine lv_iinc (v := nI (k + 1)) (lv' := [(1, .int (nI (k + 1))), (0, .ref (ad 0))]) hx hb d_Mo_noMultipliers_15 hl (k := 0) rfl (nI_inc _) (by decide) rfl (fun ls hl => ?_)
        refine lv_goto (tgt := 2) hx hb d_Mo_noMultipliers_18 (by decide) ?_
        exact ih (k + 1) (by omega) (by omega) H locs hP hD hS ls (lv_sub hl [0, 1] rfl)
  refine lv_iconst (v := 0) hx hb d_Mo_noMultipliers_0 (by decide) ?_
  refine lv_istore_n (lv' := [(1, .int 0), (0, .ref (ad 0))]) hx hb d_Mo_noMultipliers_1 rfl hl (by decide) rfl (fun ls hl => ?_)
  exact lp (8 + 1) 0 (by omega) (by omega) _ _ hP hD hS ls (lv_sub hl [0, 1] rfl)
theorem x_Mo_noMultipliers {σ : oS} (F : CallFix p m c cc nL s args (cw :: tt) own) (hG : Cond.methodLink own index y_Mo_noMultipliers ∈ tt) (hR : 0 + 1 ≤ R.frames ∧ 8 + (2 + 11) + 0 ≤ R.locals) (hK : va_K D vwCl (mt cI cZ) s) (hP : va_P D vwCl (mw cI cZ ad σ) H) (hD : va_D A (mw cI cZ ad σ)) (hS : va_S A H0 H locs) (hA : ∀ q, H0.size ≤ q → A q) (hsz : ls.size = nL) (hW : (rest.map fun v => v.category).sum ≤ 8) (hcs : cells ≤ R.cells ∧ slots ≤ R.slots) (hdg : decode cc pc = .ok (.invokevirtual index, 3)) (kk : ∀ (H1 : Heap) (locs1 : List Loc), va_P D vwCl (mw cI cZ ad (mo_z σ 8)) H1 → va_D A (mw cI cZ ad (mo_z σ 8)) → va_S A H0 H1 locs1 → W p l e R s m args below meth c H1 locs1 cells slots Q (F0 m (pc + 3) ls (rest))) : W p l e R s m args below meth c H locs cells slots Q (F0 m pc ls (.ref (ad 0) :: rest)) :=
  ok_VM (As := []) F (c_Mo_noMultipliers σ) 0 (tt_V hG i_Mo_noMultipliers l_Mo_noMultipliers in9_Mo k_Mo_noMultipliers) rfl ⟨rfl, rfl⟩ (by decide +kernel) hR hK hP hD hS hA (0) 6 rfl rfl mw_0 rfl hsz rfl hW hcs hdg kk
set_option maxHeartbeats 4000000 in
set_option maxRecDepth 100000 in
theorem c_Mo_kindOf (σ : oS) {r : Nat} {u : Nat} (h_r : σ 2 0 0 = nI r) (h_u : σ 3 0 0 = nI u) (hr4 : r ≤ 4) (hu4 : u ≤ 4) {x : Int32} {k : Nat} (hk : x = nI k) (hk9 : k < 8) (hk8 : k < r + u) : ok_MR l y_Mo_kindOf (Cond.code y_Mo_kindOf b_Mo_kindOf 2 (some .int) :: tt) { frames := 0, cells := 0, slots := 0, locals := 0 } D vwCl (mt cI cZ) (mw cI cZ ad σ) [.ref (ad 0), .int x] (some (.int (mo_k σ r k))) := by
  refine ok_startR (cc := b_Mo_kindOf) (own := RMo) (maxL := 2) (ret := (some .int)) (by decide +kernel) rfl rfl (Nat.le_of_ble_eq_true rfl) ?_
  intro p e s m below meth c F hr hlk hP hK ls hl
  have hl : lv_has ls 2 [(0, .ref (ad 0)), (1, .int x)] := hl
  have hx := F.1
  have hb := F.2.1
  refine lv_iload_n hx hb d_Mo_kindOf_0 rfl (lv_at hl 1 rfl) ?_
  refine lv_aload_n hx hb d_Mo_kindOf_1 rfl (lv_at hl 0 rfl) ?_
  refine gf_Mo_rows F hK hP d_Mo_kindOf_2 ?_
  refine lv_icmp_ge (tgt := 17) hx hb d_Mo_kindOf_5 (by decide) (fun c1 => ?_) (fun c1 => ?_)
  · have hlt : r ≤ k := by
      rw [h_r, hk, nI_leI (by omega) (by omega)] at c1; omega
    refine lv_iconst (v := 0) hx hb d_Mo_kindOf_17 (by decide) ?_
    exact ok_iretR F hr hlk (by first | rw [mo_k, if_pos hlt] | rw [mo_k, if_neg (by omega)]) d_Mo_kindOf_18
  · have hlt : k < r := by
      rw [h_r, hk, nI_leI (by omega) (by omega)] at c1; omega
    refine lv_aload_n hx hb d_Mo_kindOf_8 rfl (lv_at hl 0 rfl) ?_
    refine gf_Mo_kind F hK hP d_Mo_kindOf_9 ?_
    refine lv_iload_n hx hb d_Mo_kindOf_12 rfl (lv_at hl 1 rfl) ?_
    refine im_12 (j := k) F hK hP hk (by omega) d_Mo_kindOf_13 ?_
    refine lv_goto (tgt := 18) hx hb d_Mo_kindOf_14 (by decide) ?_
    exact ok_iretR F hr hlk (by first | rw [mo_k, if_pos hlt] | rw [mo_k, if_neg (by omega)]) d_Mo_kindOf_18
theorem x_Mo_kindOf {σ : oS} {r : Nat} {u : Nat} (h_r : σ 2 0 0 = nI r) (h_u : σ 3 0 0 = nI u) (hr4 : r ≤ 4) (hu4 : u ≤ 4) {x : Int32} {k : Nat} (hk : x = nI k) (hk9 : k < 8) (hk8 : k < r + u) (F : CallFix p m c cc nL s args (cw :: tt) own) (hG : Cond.methodLink own index y_Mo_kindOf ∈ tt) (hR : 0 + 1 ≤ R.frames ∧ 8 + (2 + 11) + 0 ≤ R.locals) (hK : va_K D vwCl (mt cI cZ) s) (hP : va_P D vwCl (mw cI cZ ad σ) H) (hsz : ls.size = nL) (hW : (rest.map fun v => v.category).sum ≤ 8) (hcs : cells ≤ R.cells ∧ slots ≤ R.slots) (hdg : decode cc pc = .ok (.invokevirtual index, 3)) (kk : W p l e R s m args below meth c H locs cells slots Q (F0 m (pc + 3) ls (.int (mo_k σ r k) :: rest))) : W p l e R s m args below meth c H locs cells slots Q (F0 m pc ls (.int x :: .ref (ad 0) :: rest)) :=
  ok_VR (As := [.int x]) F (c_Mo_kindOf σ h_r h_u hr4 hu4 hk hk9 hk8) 1 (tt_V hG i_Mo_kindOf l_Mo_kindOf in9_Mo k_Mo_kindOf) rfl ⟨rfl, rfl⟩ (by decide +kernel) hR hK hP (0) 6 rfl rfl mw_0 rfl hsz rfl hW hcs hdg kk
set_option maxHeartbeats 4000000 in
set_option maxRecDepth 100000 in
theorem c_Mo_rightOf (σ : oS) {r : Nat} {u : Nat} (h_r : σ 2 0 0 = nI r) (h_u : σ 3 0 0 = nI u) (hr4 : r ≤ 4) (hu4 : u ≤ 4) (hok : mo_ok σ u) {x : Int32} {k : Nat} (hk : x = nI k) (hk9 : k < 8) (hk8 : k < r + u) : ok_MR l y_Mo_rightOf (Cond.code y_Mo_rightOf b_Mo_rightOf 4 (some .int) :: tt) { frames := 0, cells := 0, slots := 0, locals := 0 } D vwCl (mt cI cZ) (mw cI cZ ad σ) [.ref (ad 0), .int x] (some (.int (mo_r σ r k))) := by
  refine ok_startR (cc := b_Mo_rightOf) (own := RMo) (maxL := 4) (ret := (some .int)) (by decide +kernel) rfl rfl (Nat.le_of_ble_eq_true rfl) ?_
  intro p e s m below meth c F hr hlk hP hK ls hl
  have hl : lv_has ls 4 [(0, .ref (ad 0)), (1, .int x)] := hl
  have hx := F.1
  have hb := F.2.1
  refine lv_iload_n hx hb d_Mo_rightOf_0 rfl (lv_at hl 1 rfl) ?_
  refine lv_aload_n hx hb d_Mo_rightOf_1 rfl (lv_at hl 0 rfl) ?_
  refine gf_Mo_rows F hK hP d_Mo_rightOf_2 ?_
  refine lv_icmp_ge (tgt := 15) hx hb d_Mo_rightOf_5 (by decide) (fun c1 => ?_) (fun c1 => ?_)
  · have hlt : r ≤ k := by
      rw [h_r, hk, nI_leI (by omega) (by omega)] at c1; omega
    refine lv_aload_n hx hb d_Mo_rightOf_15 rfl (lv_at hl 0 rfl) ?_
    refine gf_Mo_top F hK hP d_Mo_rightOf_16 ?_
    refine lv_aload_n hx hb d_Mo_rightOf_19 rfl (lv_at hl 0 rfl) ?_
    refine gf_Mo_cutA F hK hP d_Mo_rightOf_20 ?_
    refine lv_iload_n hx hb d_Mo_rightOf_23 rfl (lv_at hl 1 rfl) ?_
    refine lv_aload_n hx hb d_Mo_rightOf_24 rfl (lv_at hl 0 rfl) ?_
    refine gf_Mo_rows F hK hP d_Mo_rightOf_25 ?_
    refine lv_isub hx hb d_Mo_rightOf_28 ?_
    refine im_15 (j := (k - r)) F hK hP (by rw [hk, h_r]; exact pk_sub (by omega)) (by omega) d_Mo_rightOf_29 ?_
    refine im_11 (j := (mo_A σ (k - r))) F hK hP (hok (k - r) (by omega)).1 (hok (k - r) (by omega)).2.1 d_Mo_rightOf_30 ?_
    refine lv_istore_n (lv' := [(2, .int (σ 11 0 (mo_A σ (k - r)))), (0, .ref (ad 0)), (1, .int x)]) hx hb d_Mo_rightOf_31 rfl hl (by decide) rfl (fun ls hl => ?_)
    refine lv_aload_n hx hb d_Mo_rightOf_32 rfl (lv_at hl 1 rfl) ?_
    refine gf_Mo_top F hK hP d_Mo_rightOf_33 ?_
    refine lv_aload_n hx hb d_Mo_rightOf_36 rfl (lv_at hl 1 rfl) ?_
    refine gf_Mo_cutB F hK hP d_Mo_rightOf_37 ?_
    refine lv_iload_n hx hb d_Mo_rightOf_40 rfl (lv_at hl 2 rfl) ?_
    refine lv_aload_n hx hb d_Mo_rightOf_41 rfl (lv_at hl 1 rfl) ?_
    refine gf_Mo_rows F hK hP d_Mo_rightOf_42 ?_
    refine lv_isub hx hb d_Mo_rightOf_45 ?_
    refine im_16 (j := (k - r)) F hK hP (by rw [hk, h_r]; exact pk_sub (by omega)) (by omega) d_Mo_rightOf_46 ?_
    refine im_11 (j := (mo_B σ (k - r))) F hK hP (hok (k - r) (by omega)).2.2.1 (hok (k - r) (by omega)).2.2.2 d_Mo_rightOf_47 ?_
    refine lv_istore_n (lv' := [(3, .int (σ 11 0 (mo_B σ (k - r)))), (2, .int (σ 11 0 (mo_A σ (k - r)))), (0, .ref (ad 0)), (1, .int x)]) hx hb d_Mo_rightOf_48 rfl hl (by decide) rfl (fun ls hl => ?_)
    refine lv_iload_n hx hb d_Mo_rightOf_49 rfl (lv_at hl 1 rfl) ?_
    refine lv_iload_n hx hb d_Mo_rightOf_50 rfl (lv_at hl 0 rfl) ?_
    refine lv_icmp_le (tgt := 58) hx hb d_Mo_rightOf_51 (by decide) (fun c2 => ?_) (fun c2 => ?_)
    · refine lv_iload_n hx hb d_Mo_rightOf_58 rfl (lv_at hl 0 rfl) ?_
      exact ok_iretR F hr hlk (by rw [mo_r, if_neg (by omega)]; first | rw [if_pos c2] | rw [if_neg c2]) d_Mo_rightOf_59
    · refine lv_iload_n hx hb d_Mo_rightOf_54 rfl (lv_at hl 1 rfl) ?_
      refine lv_goto (tgt := 59) hx hb d_Mo_rightOf_55 (by decide) ?_
      exact ok_iretR F hr hlk (by rw [mo_r, if_neg (by omega)]; first | rw [if_pos c2] | rw [if_neg c2]) d_Mo_rightOf_59
  · have hlt : k < r := by
      rw [h_r, hk, nI_leI (by omega) (by omega)] at c1; omega
    refine lv_aload_n hx hb d_Mo_rightOf_8 rfl (lv_at hl 0 rfl) ?_
    refine gf_Mo_right F hK hP d_Mo_rightOf_9 ?_
    refine lv_iload_n hx hb d_Mo_rightOf_12 rfl (lv_at hl 1 rfl) ?_
    refine im_13 (j := k) F hK hP hk (by omega) d_Mo_rightOf_13 ?_
    exact ok_iretR F hr hlk (by rw [mo_r, if_pos hlt]) d_Mo_rightOf_14
theorem x_Mo_rightOf {σ : oS} {r : Nat} {u : Nat} (h_r : σ 2 0 0 = nI r) (h_u : σ 3 0 0 = nI u) (hr4 : r ≤ 4) (hu4 : u ≤ 4) (hok : mo_ok σ u) {x : Int32} {k : Nat} (hk : x = nI k) (hk9 : k < 8) (hk8 : k < r + u) (F : CallFix p m c cc nL s args (cw :: tt) own) (hG : Cond.methodLink own index y_Mo_rightOf ∈ tt) (hR : 0 + 1 ≤ R.frames ∧ 8 + (4 + 11) + 0 ≤ R.locals) (hK : va_K D vwCl (mt cI cZ) s) (hP : va_P D vwCl (mw cI cZ ad σ) H) (hsz : ls.size = nL) (hW : (rest.map fun v => v.category).sum ≤ 8) (hcs : cells ≤ R.cells ∧ slots ≤ R.slots) (hdg : decode cc pc = .ok (.invokevirtual index, 3)) (kk : W p l e R s m args below meth c H locs cells slots Q (F0 m (pc + 3) ls (.int (mo_r σ r k) :: rest))) : W p l e R s m args below meth c H locs cells slots Q (F0 m pc ls (.int x :: .ref (ad 0) :: rest)) :=
  ok_VR (As := [.int x]) F (c_Mo_rightOf σ h_r h_u hr4 hu4 hok hk hk9 hk8) 1 (tt_V hG i_Mo_rightOf l_Mo_rightOf in9_Mo k_Mo_rightOf) rfl ⟨rfl, rfl⟩ (by decide +kernel) hR hK hP (0) 6 rfl rfl mw_0 rfl hsz rfl hW hcs hdg kk
set_option maxHeartbeats 4000000 in
set_option maxRecDepth 100000 in
theorem c_Mo_factorOf (σ : oS) {r : Nat} {u : Nat} (h_r : σ 2 0 0 = nI r) (h_u : σ 3 0 0 = nI u) (hr4 : r ≤ 4) (hu4 : u ≤ 4) {x : Int32} {k : Nat} (hk : x = nI k) (hk9 : k < 8) (hk8 : k < r + u) {y : Int32} {j : Nat} (hj : y = nI j) (hj9 : j < 5) : ok_MR l y_Mo_factorOf (Cond.code y_Mo_factorOf b_Mo_factorOf 3 (some .int) :: tt) { frames := 0, cells := 0, slots := 0, locals := 0 } D vwCl (mt cI cZ) (mw cI cZ ad σ) [.ref (ad 0), .int x, .int y] (some (.int (mo_f σ r k j))) := by
  refine ok_startR (cc := b_Mo_factorOf) (own := RMo) (maxL := 3) (ret := (some .int)) (by decide +kernel) rfl rfl (Nat.le_of_ble_eq_true rfl) ?_
  intro p e s m below meth c F hr hlk hP hK ls hl
  have hl : lv_has ls 3 [(0, .ref (ad 0)), (1, .int x), (2, .int y)] := hl
  have hx := F.1
  have hb := F.2.1
  refine lv_iload_n hx hb d_Mo_factorOf_0 rfl (lv_at hl 1 rfl) ?_
  refine lv_aload_n hx hb d_Mo_factorOf_1 rfl (lv_at hl 0 rfl) ?_
  refine gf_Mo_rows F hK hP d_Mo_factorOf_2 ?_
  refine lv_icmp_ge (tgt := 19) hx hb d_Mo_factorOf_5 (by decide) (fun c1 => ?_) (fun c1 => ?_)
  · have hlt : r ≤ k := by
      rw [h_r, hk, nI_leI (by omega) (by omega)] at c1; omega
    refine lv_aload_n hx hb d_Mo_factorOf_19 rfl (lv_at hl 0 rfl) ?_
    refine gf_Mo_cutA F hK hP d_Mo_factorOf_20 ?_
    refine lv_iload_n hx hb d_Mo_factorOf_23 rfl (lv_at hl 1 rfl) ?_
    refine lv_aload_n hx hb d_Mo_factorOf_24 rfl (lv_at hl 0 rfl) ?_
    refine gf_Mo_rows F hK hP d_Mo_factorOf_25 ?_
    refine lv_isub hx hb d_Mo_factorOf_28 ?_
    refine im_15 (j := (k - r)) F hK hP (by rw [hk, h_r]; exact pk_sub (by omega)) (by omega) d_Mo_factorOf_29 ?_
    refine lv_iload_n hx hb d_Mo_factorOf_30 rfl (lv_at hl 2 rfl) ?_
    refine lv_icmp_eq (tgt := 49) hx hb d_Mo_factorOf_31 (by decide) (fun c2 => ?_) (fun c2 => ?_)
    · refine lv_iconst (v := 1) hx hb d_Mo_factorOf_49 (by decide) ?_
      refine lv_goto (tgt := 54) hx hb d_Mo_factorOf_50 (by decide) ?_
      exact ok_iretR F hr hlk (by rw [mo_f, if_neg (by omega), ← hj]; rw [if_pos c2]) d_Mo_factorOf_54
    · refine lv_aload_n hx hb d_Mo_factorOf_34 rfl (lv_at hl 0 rfl) ?_
      refine gf_Mo_cutB F hK hP d_Mo_factorOf_35 ?_
      refine lv_iload_n hx hb d_Mo_factorOf_38 rfl (lv_at hl 1 rfl) ?_
      refine lv_aload_n hx hb d_Mo_factorOf_39 rfl (lv_at hl 0 rfl) ?_
      refine gf_Mo_rows F hK hP d_Mo_factorOf_40 ?_
      refine lv_isub hx hb d_Mo_factorOf_43 ?_
      refine im_16 (j := (k - r)) F hK hP (by rw [hk, h_r]; exact pk_sub (by omega)) (by omega) d_Mo_factorOf_44 ?_
      refine lv_iload_n hx hb d_Mo_factorOf_45 rfl (lv_at hl 2 rfl) ?_
      refine lv_icmp_ne (tgt := 53) hx hb d_Mo_factorOf_46 (by decide) (fun c3 => ?_) (fun c3 => ?_)
      · refine lv_iconst (v := 0) hx hb d_Mo_factorOf_53 (by decide) ?_
        exact ok_iretR F hr hlk (by rw [mo_f, if_neg (by omega), ← hj]; rw [if_neg c2]; first | rw [if_pos c3] | rw [if_neg c3]) d_Mo_factorOf_54
      · refine lv_iconst (v := 1) hx hb d_Mo_factorOf_49 (by decide) ?_
        refine lv_goto (tgt := 54) hx hb d_Mo_factorOf_50 (by decide) ?_
        exact ok_iretR F hr hlk (by rw [mo_f, if_neg (by omega), ← hj]; rw [if_neg c2]; first | rw [if_pos c3] | rw [if_neg c3]) d_Mo_factorOf_54
  · have hlt : k < r := by
      rw [h_r, hk, nI_leI (by omega) (by omega)] at c1; omega
    refine lv_aload_n hx hb d_Mo_factorOf_8 rfl (lv_at hl 0 rfl) ?_
    refine gf_Mo_factor F hK hP d_Mo_factorOf_9 ?_
    refine lv_iconst (v := 5) hx hb d_Mo_factorOf_12 (by decide) ?_
    refine lv_iload_n hx hb d_Mo_factorOf_13 rfl (lv_at hl 1 rfl) ?_
    refine lv_imul hx hb d_Mo_factorOf_14 ?_
    refine lv_iload_n hx hb d_Mo_factorOf_15 rfl (lv_at hl 2 rfl) ?_
    refine lv_iadd hx hb d_Mo_factorOf_16 ?_
    refine im_14 (j := (5 * k + j)) F hK hP (by rw [hk, hj]; exact mo_ix) (by omega) d_Mo_factorOf_17 ?_
    exact ok_iretR F hr hlk (by rw [mo_f, if_pos hlt]) d_Mo_factorOf_18
theorem x_Mo_factorOf {σ : oS} {r : Nat} {u : Nat} (h_r : σ 2 0 0 = nI r) (h_u : σ 3 0 0 = nI u) (hr4 : r ≤ 4) (hu4 : u ≤ 4) {x : Int32} {k : Nat} (hk : x = nI k) (hk9 : k < 8) (hk8 : k < r + u) {y : Int32} {j : Nat} (hj : y = nI j) (hj9 : j < 5) (F : CallFix p m c cc nL s args (cw :: tt) own) (hG : Cond.methodLink own index y_Mo_factorOf ∈ tt) (hR : 0 + 1 ≤ R.frames ∧ 8 + (3 + 11) + 0 ≤ R.locals) (hK : va_K D vwCl (mt cI cZ) s) (hP : va_P D vwCl (mw cI cZ ad σ) H) (hsz : ls.size = nL) (hW : (rest.map fun v => v.category).sum ≤ 8) (hcs : cells ≤ R.cells ∧ slots ≤ R.slots) (hdg : decode cc pc = .ok (.invokevirtual index, 3)) (kk : W p l e R s m args below meth c H locs cells slots Q (F0 m (pc + 3) ls (.int (mo_f σ r k j) :: rest))) : W p l e R s m args below meth c H locs cells slots Q (F0 m pc ls (.int y :: .int x :: .ref (ad 0) :: rest)) :=
  ok_VR (As := [.int x, .int y]) F (c_Mo_factorOf σ h_r h_u hr4 hu4 hk hk9 hk8 hj hj9) 2 (tt_V hG i_Mo_factorOf l_Mo_factorOf in9_Mo k_Mo_factorOf) rfl ⟨rfl, rfl⟩ (by decide +kernel) hR hK hP (0) 6 rfl rfl mw_0 rfl hsz rfl hW hcs hdg kk
set_option maxHeartbeats 4000000 in
set_option maxRecDepth 100000 in
theorem c_Mo_canHold (σ : oS) {r : Nat} {u : Nat} (h_r : σ 2 0 0 = nI r) (h_u : σ 3 0 0 = nI u) (hr4 : r ≤ 4) (hu4 : u ≤ 4) {n : Nat} (hn : σ 1 0 0 = nI n) (hn9 : n ≤ 5) (hok : mo_ok σ u) {x : Int32} {k : Nat} (hk : x = nI k) (hk9 : k < 8) (hk8 : k < r + u) {w : Nat} (hw : w = 11 ∨ w = 14) {y : Int32} {m0 : Nat} (hm0 : y = nI m0) (hm09 : m0 < 6) (hmn : m0 ≤ n) : ok_MR l y_Mo_canHold (Cond.code y_Mo_canHold b_Mo_canHold 7 (some .boolean) :: tt) { frames := 1, cells := 0, slots := 0, locals := 23 } D vwCl (mt cI cZ) (mw cI cZ ad σ) [.ref (ad 0), .int x, .ref (ad w), .int y] (some (.int (mo_h σ r k (mo_s2 σ r k m0 (mo_s1 σ r k w m0) (n - m0))))) := by
  refine ok_startR (cc := b_Mo_canHold) (own := RMo) (maxL := 7) (ret := (some .boolean)) (by decide +kernel) rfl rfl (Nat.le_of_ble_eq_true rfl) ?_
  intro p e s m below meth c F hr hlk hP hK ls hl
  have hl : lv_has ls 7 [(0, .ref (ad 0)), (1, .int x), (2, .ref (ad w)), (3, .int y)] := hl
  have hx := F.1
  have hb := F.2.1
  have lq : ∀ (f d : Nat), m0 + d ≤ n → n - (m0 + d) < f → ∀ ls : Array Slot, lv_has ls 7 [(5, .int (nI (m0 + d))), (4, .int (mo_s2 σ r k m0 (mo_s1 σ r k w m0) d)), (0, .ref (ad 0)), (1, .int x), (2, .ref (ad w)), (3, .int y)] → W p l e { frames := 1, cells := 0, slots := 0, locals := 23 } s m ([.ref (ad 0), .int x, .ref (ad w), .int y] : List Value).toArray below meth c s.heap [] 0 0 (MQ below (ok_R (some (.int (mo_h σ r k (mo_s2 σ r k m0 (mo_s1 σ r k w m0) (n - m0)))))) ([.ref (ad 0), .int x, .ref (ad w), .int y] : List Value).toArray s 0 0 (fun _ => False)) (F0 m 38 ls []) := by
    intro f
    induction f with
    | zero => intro d h1 h2; omega
    | succ f ih =>
      intro d h1 h2 ls hl
      refine lv_iload hx hb d_Mo_canHold_38 (lv_at hl 0 rfl) ?_
      refine lv_aload_n hx hb d_Mo_canHold_40 rfl (lv_at hl 2 rfl) ?_
      refine gf_Mo_columns F hK hP d_Mo_canHold_41 ?_
      refine lv_icmp_ge (tgt := 98) hx hb d_Mo_canHold_44 (by decide) (fun c1 => ?_) (fun c1 => ?_)
      · have hdn : n = m0 + d := by
          rw [hn, nI_leI (by omega) (by omega)] at c1; omega
        have hS2 : mo_s2 σ r k m0 (mo_s1 σ r k w m0) d = mo_s2 σ r k m0 (mo_s1 σ r k w m0) (n - m0) := by rw [show n - m0 = d by omega]
        refine lv_aload_n hx hb d_Mo_canHold_98 rfl (lv_at hl 2 rfl) ?_
        refine lv_iload_n hx hb d_Mo_canHold_99 rfl (lv_at hl 3 rfl) ?_
        refine x_Mo_kindOf (r := r) (u := u) h_r h_u hr4 hu4 (k := k) hk (by omega) (by omega) F (tt4 47 rfl rfl) ⟨Nat.le_of_ble_eq_true rfl, Nat.le_of_ble_eq_true rfl⟩ hK hP hl.1 (Nat.le_of_ble_eq_true rfl) ⟨Nat.zero_le _, Nat.zero_le _⟩ d_Mo_canHold_100 ?_
        refine lv_if_ne (tgt := 124) hx hb d_Mo_canHold_103 (by decide) (fun c2 => ?_) (fun c2 => ?_)
        · refine lv_iload hx hb d_Mo_canHold_124 (lv_at hl 1 rfl) ?_
          refine lv_aload_n hx hb d_Mo_canHold_126 rfl (lv_at hl 2 rfl) ?_
          refine lv_iload_n hx hb d_Mo_canHold_127 rfl (lv_at hl 3 rfl) ?_
          refine x_Mo_rightOf (r := r) (u := u) h_r h_u hr4 hu4 hok (k := k) hk (by omega) (by omega) F (tt4 51 rfl rfl) ⟨Nat.le_of_ble_eq_true rfl, Nat.le_of_ble_eq_true rfl⟩ hK hP hl.1 (Nat.le_of_ble_eq_true rfl) ⟨Nat.zero_le _, Nat.zero_le _⟩ d_Mo_canHold_128 ?_
          refine lv_icmp_lt (tgt := 138) hx hb d_Mo_canHold_131 (by decide) (fun c3 => ?_) (fun c3 => ?_)
          · refine lv_iconst (v := 0) hx hb d_Mo_canHold_138 (by decide) ?_
            exact ok_zretR F hr hlk (rfl) (by rw [← hS2, mo_h]; first | rw [if_pos c2, if_pos c3] | rw [if_pos c2, if_neg c3] | rw [if_neg c2, if_pos c3] | rw [if_neg c2, if_neg c3]) d_Mo_canHold_139
          · refine lv_iconst (v := 1) hx hb d_Mo_canHold_134 (by decide) ?_
            refine lv_goto (tgt := 139) hx hb d_Mo_canHold_135 (by decide) ?_
            exact ok_zretR F hr hlk (rfl) (by rw [← hS2, mo_h]; first | rw [if_pos c2, if_pos c3] | rw [if_pos c2, if_neg c3] | rw [if_neg c2, if_pos c3] | rw [if_neg c2, if_neg c3]) d_Mo_canHold_139
        · refine lv_iload hx hb d_Mo_canHold_106 (lv_at hl 1 rfl) ?_
          refine lv_aload_n hx hb d_Mo_canHold_108 rfl (lv_at hl 2 rfl) ?_
          refine lv_iload_n hx hb d_Mo_canHold_109 rfl (lv_at hl 3 rfl) ?_
          refine x_Mo_rightOf (r := r) (u := u) h_r h_u hr4 hu4 hok (k := k) hk (by omega) (by omega) F (tt4 51 rfl rfl) ⟨Nat.le_of_ble_eq_true rfl, Nat.le_of_ble_eq_true rfl⟩ hK hP hl.1 (Nat.le_of_ble_eq_true rfl) ⟨Nat.zero_le _, Nat.zero_le _⟩ d_Mo_canHold_110 ?_
          refine lv_icmp_gt (tgt := 120) hx hb d_Mo_canHold_113 (by decide) (fun c4 => ?_) (fun c4 => ?_)
          · refine lv_iconst (v := 0) hx hb d_Mo_canHold_120 (by decide) ?_
            refine lv_goto (tgt := 139) hx hb d_Mo_canHold_121 (by decide) ?_
            exact ok_zretR F hr hlk (rfl) (by rw [← hS2, mo_h]; first | rw [if_pos c2, if_pos c4] | rw [if_pos c2, if_neg c4] | rw [if_neg c2, if_pos c4] | rw [if_neg c2, if_neg c4]) d_Mo_canHold_139
          · refine lv_iconst (v := 1) hx hb d_Mo_canHold_116 (by decide) ?_
            refine lv_goto (tgt := 139) hx hb d_Mo_canHold_117 (by decide) ?_
            exact ok_zretR F hr hlk (rfl) (by rw [← hS2, mo_h]; first | rw [if_pos c2, if_pos c4] | rw [if_pos c2, if_neg c4] | rw [if_neg c2, if_pos c4] | rw [if_neg c2, if_neg c4]) d_Mo_canHold_139
      · have hdn : m0 + d < n := by
          rw [hn, nI_leI (by omega) (by omega)] at c1; omega
        refine lv_aload_n hx hb d_Mo_canHold_47 rfl (lv_at hl 2 rfl) ?_
        refine lv_iload_n hx hb d_Mo_canHold_48 rfl (lv_at hl 3 rfl) ?_
        refine lv_iload hx hb d_Mo_canHold_49 (lv_at hl 0 rfl) ?_
        refine x_Mo_factorOf (r := r) (u := u) h_r h_u hr4 hu4 (k := k) hk (by omega) (by omega) (j := (m0 + d)) rfl (by omega) F (tt4 43 rfl rfl) ⟨Nat.le_of_ble_eq_true rfl, Nat.le_of_ble_eq_true rfl⟩ hK hP hl.1 (Nat.le_of_ble_eq_true rfl) ⟨Nat.zero_le _, Nat.zero_le _⟩ d_Mo_canHold_51 ?_
        refine lv_aload_n hx hb d_Mo_canHold_54 rfl (lv_at hl 2 rfl) ?_
        refine gf_Mo_top F hK hP d_Mo_canHold_55 ?_
        refine lv_iload hx hb d_Mo_canHold_58 (lv_at hl 0 rfl) ?_
        refine im_11 (j := (m0 + d)) F hK hP rfl (by omega) d_Mo_canHold_60 ?_
        refine lv_imul hx hb d_Mo_canHold_61 ?_
        refine lv_istore (lv' := [(6, .int ((mo_f σ r k (m0 + d)) * (σ 11 0 (m0 + d)))), (5, .int (nI (m0 + d))), (4, .int (mo_s2 σ r k m0 (mo_s1 σ r k w m0) d)), (0, .ref (ad 0)), (1, .int x), (2, .ref (ad w)), (3, .int y)]) hx hb d_Mo_canHold_62 hl (by decide) rfl (fun ls hl => ?_)
        refine lv_aload_n hx hb d_Mo_canHold_64 rfl (lv_at hl 3 rfl) ?_
        refine lv_iload_n hx hb d_Mo_canHold_65 rfl (lv_at hl 4 rfl) ?_
        refine x_Mo_kindOf (r := r) (u := u) h_r h_u hr4 hu4 (k := k) hk (by omega) (by omega) F (tt4 47 rfl rfl) ⟨Nat.le_of_ble_eq_true rfl, Nat.le_of_ble_eq_true rfl⟩ hK hP hl.1 (Nat.le_of_ble_eq_true rfl) ⟨Nat.zero_le _, Nat.zero_le _⟩ d_Mo_canHold_66 ?_
        refine lv_if_ne (tgt := 80) hx hb d_Mo_canHold_69 (by decide) (fun c5 => ?_) (fun c5 => ?_)
        · refine lv_iload hx hb d_Mo_canHold_80 (lv_at hl 0 rfl) ?_
          refine lv_if_le (tgt := 92) hx hb d_Mo_canHold_82 (by decide) (fun c6 => ?_) (fun c6 => ?_)
          · refine lv_iinc (v := nI (m0 + d + 1)) (lv' := [(5, .int (nI (m0 + d + 1))), (6, .int ((mo_f σ r k (m0 + d)) * (σ 11 0 (m0 + d)))), (4, .int (mo_s2 σ r k m0 (mo_s1 σ r k w m0) d)), (0, .ref (ad 0)), (1, .int x), (2, .ref (ad w)), (3, .int y)]) hx hb d_Mo_canHold_92 hl (k := 1) rfl (nI_inc _) (by decide) rfl (fun ls hl => ?_)
            refine lv_goto (tgt := 38) hx hb d_Mo_canHold_95 (by decide) ?_
            have e9 : mo_s2 σ r k m0 (mo_s1 σ r k w m0) (d + 1) = mo_s2 σ r k m0 (mo_s1 σ r k w m0) d := by
              rw [mo_s2, mo_y]; first | rw [if_pos c5, if_pos c6] | rw [if_pos c5, if_neg c6] | rw [if_neg c5, if_pos c6] | rw [if_neg c5, if_neg c6]
            exact ih (d + 1) (by omega) (by omega) ls (by rw [e9]; exact (lv_sub hl [0, 2, 3, 4, 5, 6] rfl))
          · refine lv_iload hx hb d_Mo_canHold_85 (lv_at hl 2 rfl) ?_
            refine lv_iload hx hb d_Mo_canHold_87 (lv_at hl 0 rfl) ?_
            refine lv_iadd hx hb d_Mo_canHold_89 ?_
            refine lv_istore (lv' := [(4, .int ((mo_s2 σ r k m0 (mo_s1 σ r k w m0) d) + ((mo_f σ r k (m0 + d)) * (σ 11 0 (m0 + d))))), (6, .int ((mo_f σ r k (m0 + d)) * (σ 11 0 (m0 + d)))), (5, .int (nI (m0 + d))), (0, .ref (ad 0)), (1, .int x), (2, .ref (ad w)), (3, .int y)]) hx hb d_Mo_canHold_90 hl (by decide) rfl (fun ls hl => ?_)
            refine lv_iinc (v := nI (m0 + d + 1)) (lv' := [(5, .int (nI (m0 + d + 1))), (4, .int ((mo_s2 σ r k m0 (mo_s1 σ r k w m0) d) + ((mo_f σ r k (m0 + d)) * (σ 11 0 (m0 + d))))), (6, .int ((mo_f σ r k (m0 + d)) * (σ 11 0 (m0 + d)))), (0, .ref (ad 0)), (1, .int x), (2, .ref (ad w)), (3, .int y)]) hx hb d_Mo_canHold_92 hl (k := 2) rfl (nI_inc _) (by decide) rfl (fun ls hl => ?_)
            refine lv_goto (tgt := 38) hx hb d_Mo_canHold_95 (by decide) ?_
            have e9 : mo_s2 σ r k m0 (mo_s1 σ r k w m0) (d + 1) = (mo_s2 σ r k m0 (mo_s1 σ r k w m0) d) + ((mo_f σ r k (m0 + d)) * (σ 11 0 (m0 + d))) := by
              rw [mo_s2, mo_y]; first | rw [if_pos c5, if_pos c6] | rw [if_pos c5, if_neg c6] | rw [if_neg c5, if_pos c6] | rw [if_neg c5, if_neg c6]
            exact ih (d + 1) (by omega) (by omega) ls (by rw [e9]; exact (lv_sub hl [0, 1, 3, 4, 5, 6] rfl))
        · refine lv_iload hx hb d_Mo_canHold_72 (lv_at hl 0 rfl) ?_
          refine lv_if_ge (tgt := 92) hx hb d_Mo_canHold_74 (by decide) (fun c7 => ?_) (fun c7 => ?_)
          · refine lv_iinc (v := nI (m0 + d + 1)) (lv' := [(5, .int (nI (m0 + d + 1))), (6, .int ((mo_f σ r k (m0 + d)) * (σ 11 0 (m0 + d)))), (4, .int (mo_s2 σ r k m0 (mo_s1 σ r k w m0) d)), (0, .ref (ad 0)), (1, .int x), (2, .ref (ad w)), (3, .int y)]) hx hb d_Mo_canHold_92 hl (k := 1) rfl (nI_inc _) (by decide) rfl (fun ls hl => ?_)
            refine lv_goto (tgt := 38) hx hb d_Mo_canHold_95 (by decide) ?_
            have e9 : mo_s2 σ r k m0 (mo_s1 σ r k w m0) (d + 1) = mo_s2 σ r k m0 (mo_s1 σ r k w m0) d := by
              rw [mo_s2, mo_y]; first | rw [if_pos c5, if_pos c7] | rw [if_pos c5, if_neg c7] | rw [if_neg c5, if_pos c7] | rw [if_neg c5, if_neg c7]
            exact ih (d + 1) (by omega) (by omega) ls (by rw [e9]; exact (lv_sub hl [0, 2, 3, 4, 5, 6] rfl))
          · refine lv_goto (tgt := 85) hx hb d_Mo_canHold_77 (by decide) ?_
            refine lv_iload hx hb d_Mo_canHold_85 (lv_at hl 2 rfl) ?_
            refine lv_iload hx hb d_Mo_canHold_87 (lv_at hl 0 rfl) ?_
            refine lv_iadd hx hb d_Mo_canHold_89 ?_
            refine lv_istore (lv' := [(4, .int ((mo_s2 σ r k m0 (mo_s1 σ r k w m0) d) + ((mo_f σ r k (m0 + d)) * (σ 11 0 (m0 + d))))), (6, .int ((mo_f σ r k (m0 + d)) * (σ 11 0 (m0 + d)))), (5, .int (nI (m0 + d))), (0, .ref (ad 0)), (1, .int x), (2, .ref (ad w)), (3, .int y)]) hx hb d_Mo_canHold_90 hl (by decide) rfl (fun ls hl => ?_)
            refine lv_iinc (v := nI (m0 + d + 1)) (lv' := [(5, .int (nI (m0 + d + 1))), (4, .int ((mo_s2 σ r k m0 (mo_s1 σ r k w m0) d) + ((mo_f σ r k (m0 + d)) * (σ 11 0 (m0 + d))))), (6, .int ((mo_f σ r k (m0 + d)) * (σ 11 0 (m0 + d)))), (0, .ref (ad 0)), (1, .int x), (2, .ref (ad w)), (3, .int y)]) hx hb d_Mo_canHold_92 hl (k := 2) rfl (nI_inc _) (by decide) rfl (fun ls hl => ?_)
            refine lv_goto (tgt := 38) hx hb d_Mo_canHold_95 (by decide) ?_
            have e9 : mo_s2 σ r k m0 (mo_s1 σ r k w m0) (d + 1) = (mo_s2 σ r k m0 (mo_s1 σ r k w m0) d) + ((mo_f σ r k (m0 + d)) * (σ 11 0 (m0 + d))) := by
              rw [mo_s2, mo_y]; first | rw [if_pos c5, if_pos c7] | rw [if_pos c5, if_neg c7] | rw [if_neg c5, if_pos c7] | rw [if_neg c5, if_neg c7]
            exact ih (d + 1) (by omega) (by omega) ls (by rw [e9]; exact (lv_sub hl [0, 1, 3, 4, 5, 6] rfl))
  have lp : ∀ (f a : Nat), a ≤ m0 → m0 - a < f → ∀ ls : Array Slot, lv_has ls 7 [(5, .int (nI a)), (4, .int (mo_s1 σ r k w a)), (0, .ref (ad 0)), (1, .int x), (2, .ref (ad w)), (3, .int y)] → W p l e { frames := 1, cells := 0, slots := 0, locals := 23 } s m ([.ref (ad 0), .int x, .ref (ad w), .int y] : List Value).toArray below meth c s.heap [] 0 0 (MQ below (ok_R (some (.int (mo_h σ r k (mo_s2 σ r k m0 (mo_s1 σ r k w m0) (n - m0)))))) ([.ref (ad 0), .int x, .ref (ad w), .int y] : List Value).toArray s 0 0 (fun _ => False)) (F0 m 6 ls []) := by
    intro f
    induction f with
    | zero => intro a h1 h2; omega
    | succ f ih =>
      intro a h1 h2 ls hl
      refine lv_iload hx hb d_Mo_canHold_6 (lv_at hl 0 rfl) ?_
      refine lv_iload_n hx hb d_Mo_canHold_8 rfl (lv_at hl 5 rfl) ?_
      refine lv_icmp_ge (tgt := 35) hx hb d_Mo_canHold_9 (by decide) (fun c8 => ?_) (fun c8 => ?_)
      · have hkn : m0 = a := by
          rw [hm0, nI_leI (by omega) (by omega)] at c8; omega
        subst hkn
        refine lv_iload_n hx hb d_Mo_canHold_35 rfl (lv_at hl 5 rfl) ?_
        refine lv_istore (lv' := [(5, .int y), (4, .int (mo_s1 σ r k w m0)), (0, .ref (ad 0)), (1, .int x), (2, .ref (ad w)), (3, .int y)]) hx hb d_Mo_canHold_36 hl (by decide) rfl (fun ls hl => ?_)
        have hl : lv_has ls 7 [(5, .int (nI (m0 + 0))), (4, .int (mo_s2 σ r k m0 (mo_s1 σ r k w m0) 0)), (0, .ref (ad 0)), (1, .int x), (2, .ref (ad w)), (3, .int y)] := by rw [Nat.add_zero, ← hm0]; exact (lv_sub hl [0, 1, 2, 3, 4, 5] rfl)
        exact lq (n + 1) 0 (by omega) (by omega) ls hl
      · have hkn : a < m0 := by
          rw [hm0, nI_leI (by omega) (by omega)] at c8; omega
        refine lv_iload hx hb d_Mo_canHold_12 (lv_at hl 1 rfl) ?_
        refine lv_aload_n hx hb d_Mo_canHold_14 rfl (lv_at hl 2 rfl) ?_
        refine lv_iload_n hx hb d_Mo_canHold_15 rfl (lv_at hl 3 rfl) ?_
        refine lv_iload hx hb d_Mo_canHold_16 (lv_at hl 0 rfl) ?_
        refine x_Mo_factorOf (r := r) (u := u) h_r h_u hr4 hu4 (k := k) hk (by omega) (by omega) (j := a) rfl (by omega) F (tt4 43 rfl rfl) ⟨Nat.le_of_ble_eq_true rfl, Nat.le_of_ble_eq_true rfl⟩ hK hP hl.1 (Nat.le_of_ble_eq_true rfl) ⟨Nat.zero_le _, Nat.zero_le _⟩ d_Mo_canHold_18 ?_
        refine lv_aload_n hx hb d_Mo_canHold_21 rfl (lv_at hl 4 rfl) ?_
        refine lv_iload hx hb d_Mo_canHold_22 (lv_at hl 0 rfl) ?_
        refine im_w (j := a) F hK hP hw rfl (by omega) d_Mo_canHold_24 ?_
        refine lv_imul hx hb d_Mo_canHold_25 ?_
        refine lv_iadd hx hb d_Mo_canHold_26 ?_
        refine lv_istore (lv' := [(4, .int ((mo_s1 σ r k w a) + ((mo_f σ r k a) * (σ (w + 9) 0 a)))), (5, .int (nI a)), (0, .ref (ad 0)), (1, .int x), (2, .ref (ad w)), (3, .int y)]) hx hb d_Mo_canHold_27 hl (by decide) rfl (fun ls hl => ?_)
        refine lv_iinc (v := nI (a + 1)) (lv' := [(5, .int (nI (a + 1))), (4, .int ((mo_s1 σ r k w a) + ((mo_f σ r k a) * (σ (w + 9) 0 a)))), (0, .ref (ad 0)), (1, .int x), (2, .ref (ad w)), (3, .int y)]) hx hb d_Mo_canHold_29 hl (k := 1) rfl (nI_inc _) (by decide) rfl (fun ls hl => ?_)
        refine lv_goto (tgt := 6) hx hb d_Mo_canHold_32 (by decide) ?_
        exact ih (a + 1) (by omega) (by omega) ls (lv_sub hl [0, 1, 2, 3, 4, 5] rfl)
  refine lv_iconst (v := 0) hx hb d_Mo_canHold_0 (by decide) ?_
  refine lv_istore (lv' := [(4, .int 0), (0, .ref (ad 0)), (1, .int x), (2, .ref (ad w)), (3, .int y)]) hx hb d_Mo_canHold_1 hl (by decide) rfl (fun ls hl => ?_)
  refine lv_iconst (v := 0) hx hb d_Mo_canHold_3 (by decide) ?_
  refine lv_istore (lv' := [(5, .int 0), (4, .int 0), (0, .ref (ad 0)), (1, .int x), (2, .ref (ad w)), (3, .int y)]) hx hb d_Mo_canHold_4 hl (by decide) rfl (fun ls hl => ?_)
  exact lp (m0 + 1) 0 (by omega) (by omega) ls (lv_sub hl [0, 1, 2, 3, 4, 5] rfl)
theorem x_Mo_canHold {σ : oS} {r : Nat} {u : Nat} (h_r : σ 2 0 0 = nI r) (h_u : σ 3 0 0 = nI u) (hr4 : r ≤ 4) (hu4 : u ≤ 4) {n : Nat} (hn : σ 1 0 0 = nI n) (hn9 : n ≤ 5) (hok : mo_ok σ u) {x : Int32} {k : Nat} (hk : x = nI k) (hk9 : k < 8) (hk8 : k < r + u) {w : Nat} (hw : w = 11 ∨ w = 14) {y : Int32} {m0 : Nat} (hm0 : y = nI m0) (hm09 : m0 < 6) (hmn : m0 ≤ n) (F : CallFix p m c cc nL s args (cw :: tt) own) (hG : Cond.methodLink own index y_Mo_canHold ∈ tt) (hR : 1 + 1 ≤ R.frames ∧ 8 + (7 + 11) + 23 ≤ R.locals) (hK : va_K D vwCl (mt cI cZ) s) (hP : va_P D vwCl (mw cI cZ ad σ) H) (hsz : ls.size = nL) (hW : (rest.map fun v => v.category).sum ≤ 8) (hcs : cells ≤ R.cells ∧ slots ≤ R.slots) (hdg : decode cc pc = .ok (.invokevirtual index, 3)) (kk : W p l e R s m args below meth c H locs cells slots Q (F0 m (pc + 3) ls (.int (mo_h σ r k (mo_s2 σ r k m0 (mo_s1 σ r k w m0) (n - m0))) :: rest))) : W p l e R s m args below meth c H locs cells slots Q (F0 m pc ls (.int y :: .ref (ad w) :: .int x :: .ref (ad 0) :: rest)) :=
  ok_VR (As := [.int x, .ref (ad w), .int y]) F (c_Mo_canHold σ h_r h_u hr4 hu4 hn hn9 hok hk hk9 hk8 hw hm0 hm09 hmn) 3 (tt_V hG i_Mo_canHold l_Mo_canHold in9_Mo k_Mo_canHold) rfl ⟨rfl, rfl⟩ (by decide +kernel) hR hK hP (0) 6 rfl rfl mw_0 rfl hsz rfl hW hcs hdg kk
set_option maxHeartbeats 4000000 in
set_option maxRecDepth 100000 in
theorem c_Mo_worthOf (σ : oS) {x : Int32} {m0 : Nat} (hm0 : x = nI m0) (hm09 : m0 < 6) : ok_MR l y_Mo_worthOf (Cond.code y_Mo_worthOf b_Mo_worthOf 4 (some .int) :: tt) { frames := 0, cells := 0, slots := 0, locals := 0 } D vwCl (mt cI cZ) (mw cI cZ ad σ) [.ref (ad 0), .int x] (some (.int (mo_w σ m0))) := by
  refine ok_startR (cc := b_Mo_worthOf) (own := RMo) (maxL := 4) (ret := (some .int)) (by decide +kernel) rfl rfl (Nat.le_of_ble_eq_true rfl) ?_
  intro p e s m below meth c F hr hlk hP hK ls hl
  have hl : lv_has ls 4 [(0, .ref (ad 0)), (1, .int x)] := hl
  have hx := F.1
  have hb := F.2.1
  have lp : ∀ (f k : Nat), k ≤ m0 → m0 - k < f → ∀ ls : Array Slot, lv_has ls 4 [(3, .int (nI k)), (2, .int (mo_w σ k)), (0, .ref (ad 0)), (1, .int x)] → W p l e { frames := 0, cells := 0, slots := 0, locals := 0 } s m ([.ref (ad 0), .int x] : List Value).toArray below meth c s.heap [] 0 0 (MQ below (ok_R (some (.int (mo_w σ m0)))) ([.ref (ad 0), .int x] : List Value).toArray s 0 0 (fun _ => False)) (F0 m 4 ls []) := by
    intro f
    induction f with
    | zero => intro k h1 h2; omega
    | succ f ih =>
      intro k h1 h2 ls hl
      refine lv_iload_n hx hb d_Mo_worthOf_4 rfl (lv_at hl 0 rfl) ?_
      refine lv_iload_n hx hb d_Mo_worthOf_5 rfl (lv_at hl 3 rfl) ?_
      refine lv_icmp_ge (tgt := 31) hx hb d_Mo_worthOf_6 (by decide) (fun c1 => ?_) (fun c1 => ?_)
      · have hkn : m0 = k := by
          rw [hm0, nI_leI (by omega) (by omega)] at c1; omega
        subst hkn
        refine lv_iload_n hx hb d_Mo_worthOf_31 rfl (lv_at hl 1 rfl) ?_
        exact ok_iretR F hr hlk (rfl) d_Mo_worthOf_32
      · have hkn : k < m0 := by
          rw [hm0, nI_leI (by omega) (by omega)] at c1; omega
        refine lv_iload_n hx hb d_Mo_worthOf_9 rfl (lv_at hl 1 rfl) ?_
        refine lv_aload_n hx hb d_Mo_worthOf_10 rfl (lv_at hl 2 rfl) ?_
        refine gf_Mo_worth F hK hP d_Mo_worthOf_11 ?_
        refine lv_iload_n hx hb d_Mo_worthOf_14 rfl (lv_at hl 0 rfl) ?_
        refine im_10 (j := k) F hK hP rfl (by omega) d_Mo_worthOf_15 ?_
        refine lv_aload_n hx hb d_Mo_worthOf_16 rfl (lv_at hl 2 rfl) ?_
        refine gf_Mo_number F hK hP d_Mo_worthOf_17 ?_
        refine lv_iload_n hx hb d_Mo_worthOf_20 rfl (lv_at hl 0 rfl) ?_
        refine im_20 (j := k) F hK hP rfl (by omega) d_Mo_worthOf_21 ?_
        refine lv_imul hx hb d_Mo_worthOf_22 ?_
        refine lv_iadd hx hb d_Mo_worthOf_23 ?_
        refine lv_istore_n (lv' := [(2, .int ((mo_w σ k) + ((σ 10 0 k) * (σ 20 0 k)))), (3, .int (nI k)), (0, .ref (ad 0)), (1, .int x)]) hx hb d_Mo_worthOf_24 rfl hl (by decide) rfl (fun ls hl => ?_)
        refine lv_iinc (v := nI (k + 1)) (lv' := [(3, .int (nI (k + 1))), (2, .int ((mo_w σ k) + ((σ 10 0 k) * (σ 20 0 k)))), (0, .ref (ad 0)), (1, .int x)]) hx hb d_Mo_worthOf_25 hl (k := 1) rfl (nI_inc _) (by decide) rfl (fun ls hl => ?_)
        refine lv_goto (tgt := 4) hx hb d_Mo_worthOf_28 (by decide) ?_
        exact ih (k + 1) (by omega) (by omega) ls (lv_sub hl [0, 1, 2, 3] rfl)
  refine lv_iconst (v := 0) hx hb d_Mo_worthOf_0 (by decide) ?_
  refine lv_istore_n (lv' := [(2, .int 0), (0, .ref (ad 0)), (1, .int x)]) hx hb d_Mo_worthOf_1 rfl hl (by decide) rfl (fun ls hl => ?_)
  refine lv_iconst (v := 0) hx hb d_Mo_worthOf_2 (by decide) ?_
  refine lv_istore_n (lv' := [(3, .int 0), (2, .int 0), (0, .ref (ad 0)), (1, .int x)]) hx hb d_Mo_worthOf_3 rfl hl (by decide) rfl (fun ls hl => ?_)
  exact lp (m0 + 1) 0 (by omega) (by omega) ls (lv_sub hl [0, 1, 2, 3] rfl)
theorem x_Mo_worthOf {σ : oS} {x : Int32} {m0 : Nat} (hm0 : x = nI m0) (hm09 : m0 < 6) (F : CallFix p m c cc nL s args (cw :: tt) own) (hG : Cond.methodLink own index y_Mo_worthOf ∈ tt) (hR : 0 + 1 ≤ R.frames ∧ 8 + (4 + 11) + 0 ≤ R.locals) (hK : va_K D vwCl (mt cI cZ) s) (hP : va_P D vwCl (mw cI cZ ad σ) H) (hsz : ls.size = nL) (hW : (rest.map fun v => v.category).sum ≤ 8) (hcs : cells ≤ R.cells ∧ slots ≤ R.slots) (hdg : decode cc pc = .ok (.invokevirtual index, 3)) (kk : W p l e R s m args below meth c H locs cells slots Q (F0 m (pc + 3) ls (.int (mo_w σ m0) :: rest))) : W p l e R s m args below meth c H locs cells slots Q (F0 m pc ls (.int x :: .ref (ad 0) :: rest)) :=
  ok_VR (As := [.int x]) F (c_Mo_worthOf σ hm0 hm09) 1 (tt_V hG i_Mo_worthOf l_Mo_worthOf in9_Mo k_Mo_worthOf) rfl ⟨rfl, rfl⟩ (by decide +kernel) hR hK hP (0) 6 rfl rfl mw_0 rfl hsz rfl hW hcs hdg kk
end
