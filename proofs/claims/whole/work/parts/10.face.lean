-- the face's own words
def ob_c (σ : oS) (x : Int32) : Int32 := if x < 0 then 1 else if x < σ 2 0 0 then 0 else 1
def ob_r (σ : oS) (x : Int32) : Int32 := if x < 0 then 1 else if x < σ 9 0 0 then 0 else 1
def ob_p (σ : oS) (x y : Int32) : Int32 := if ob_c σ x = 0 then (if ob_c σ y = 0 then (if x = y then 1 else 0) else 1) else 1
def ob_v (x : Int32) : Int32 := if x < -10000 then 1 else if x ≤ 10000 then 0 else 1
def ob_u (x y : Int32) : Int32 := (Int32.toUInt32 x >>> (Int32.toUInt32 (6 * y) &&& Int32.toUInt32 31)).toInt32 &&& 63
def ob_s (σ : oS) (i : Nat) (x : Int32) : Nat → Int32
  | 0 => 0
  | k + 1 => ob_s σ i x k + σ 3 i k * ob_u x (nI k)
def ob_first (p : Nat → Bool) : Nat → Nat → Option Nat
  | 0, _ => none
  | f + 1, k => if p k = true then some k else ob_first p f (k + 1)
def ob_o (d : Int32) (b : Int32) : Option Nat → Int32
  | none => d
  | some k => b + nI k
def ob_D (σ : oS) (r u n : Nat) : Option Nat := ob_first (fun k => li_h σ (ls_i r k) (li_s σ (ls_i r k) n) == 0) (r + u) 0
def ob_H1 (σ : oS) (n : Nat) (x : Int32) : Option Nat := ob_first (fun k => decide (¬ ob_u x (nI k) ≤ σ 1 0 k)) n 0
def ob_H2 (σ : oS) (r u n : Nat) (x : Int32) : Option Nat := ob_first (fun k => li_h σ (ls_i r k) (ob_s σ (ls_i r k) x n) == 0) (r + u) 0
def ob_H (σ : oS) (r u n : Nat) (x : Int32) : Int32 := match ob_H1 σ n x with
  | some k => 1 + nI k
  | none => ob_o 0 101 (ob_H2 σ r u n x)
def ob_fd (x y : Int64) : Int64 := if 0 ≤ lg_cmp (x ^^^ y) 0 then x / y else if lg_cmp (x / y * y) x = 0 then x / y else x / y - 1
def ob_R (σ : oS) (r u k : Nat) : Int64 := 1000 * Int32.toInt64 (σ 0 0 k) - ls_wf σ r k (r + u)
def ob_C (σ : oS) (r u : Nat) : Nat → Int64
  | 0 => ls_wr σ r (r + u)
  | k + 1 => if lg_cmp (ob_R σ r u k) 0 ≤ 0 then ob_C σ r u k else ob_C σ r u k + Int32.toInt64 (σ 1 0 k) * ob_R σ r u k
section
variable {l : Launch} {D : va_G} {cI cL : ClassId} {ad : Nat → Nat}
variable {p : Program} {e : Env} {R : Room} {s : State} {m : MethodId} {args : Array Value} {below : List Frame} {meth : Method} {c : Code} {H : Heap} {locs : List Loc} {cells slots : Nat} {Q : State → Prop} {cc : ByteArray} {pc nL index : Nat} {ls : Array Slot} {rest : List Value} {A : Nat → Prop} {H0 : Heap} {cw : Cond} {own : String}
set_option maxHeartbeats 4000000 in
set_option maxRecDepth 100000 in
theorem c_JM_floorDiv (σ : oS) {x : Int64} {y : Int64} (hy0 : ¬ y = 0) : ok_MR l y_JM_floorDiv (Cond.code y_JM_floorDiv b_JM_floorDiv 6 (some .long) :: tt) { frames := 0, cells := 0, slots := 0, locals := 0 } D vwCl (ot cI cL) (ow cI cL ad σ) [.long x, .long y] (some (.long (ob_fd x y))) := by
  refine ok_startRF (cc := b_JM_floorDiv) (own := RJM) (maxL := 6) (ret := (some .long)) (by decide +kernel) rfl rfl (Nat.le_of_ble_eq_true rfl) ?_
  intro p e s m below meth c F hr hlk hP hK ls hl
  have hl : lv_has ls 6 [(0, .long x), (2, .long y)] := hl
  have hx := F.1
  have hb := F.2.1
  refine lv_lload_n hx hb d_JM_floorDiv_0 rfl (lv_at hl 0 rfl) ?_
  refine lv_lload_n hx hb d_JM_floorDiv_1 rfl (lv_at hl 1 rfl) ?_
  refine lv_ldiv hx hb d_JM_floorDiv_2 hy0 ?_
  refine lv_lstore (lv' := [(4, .long (x / y)), (0, .long x), (2, .long y)]) hx hb d_JM_floorDiv_3 hl (by decide) rfl (fun ls hl => ?_)
  refine lv_lload_n hx hb d_JM_floorDiv_5 rfl (lv_at hl 1 rfl) ?_
  refine lv_lload_n hx hb d_JM_floorDiv_6 rfl (lv_at hl 2 rfl) ?_
  refine lv_lxor hx hb d_JM_floorDiv_7 ?_
  refine lv_lconst (v := 0) hx hb d_JM_floorDiv_8 (by decide) ?_
  refine W.lcmp hx hb d_JM_floorDiv_9 ?_
  refine lv_if_ge (tgt := 27) hx hb d_JM_floorDiv_10 (by decide) (fun c1 => ?_) (fun c1 => ?_)
  · refine lv_lload hx hb d_JM_floorDiv_27 (lv_at hl 0 rfl) ?_
    exact ok_lretR F hr hlk (by simp [ob_fd, c1]) d_JM_floorDiv_29
  · refine lv_lload hx hb d_JM_floorDiv_13 (lv_at hl 0 rfl) ?_
    refine lv_lload_n hx hb d_JM_floorDiv_15 rfl (lv_at hl 2 rfl) ?_
    refine lv_lmul hx hb d_JM_floorDiv_16 ?_
    refine lv_lload_n hx hb d_JM_floorDiv_17 rfl (lv_at hl 1 rfl) ?_
    refine W.lcmp hx hb d_JM_floorDiv_18 ?_
    refine lv_if_eq (tgt := 27) hx hb d_JM_floorDiv_19 (by decide) (fun c2 => ?_) (fun c2 => ?_)
    · refine lv_lload hx hb d_JM_floorDiv_27 (lv_at hl 0 rfl) ?_
      exact ok_lretR F hr hlk (by simp [ob_fd, c1, c2]) d_JM_floorDiv_29
    · refine lv_lload hx hb d_JM_floorDiv_22 (lv_at hl 0 rfl) ?_
      refine lv_lconst (v := 1) hx hb d_JM_floorDiv_24 (by decide) ?_
      refine lv_lsub hx hb d_JM_floorDiv_25 ?_
      exact ok_lretR F hr hlk (by simp [ob_fd, c1, c2]) d_JM_floorDiv_26
theorem x_JM_floorDiv {σ : oS} {x : Int64} {y : Int64} (hy0 : ¬ y = 0) (F : CallFix p m c cc nL s args (cw :: tt) own) (hG : Cond.methodLink own index y_JM_floorDiv ∈ tt) (hR : 0 + 1 ≤ R.frames ∧ 8 + (6 + 11) + 0 ≤ R.locals) (hK : va_K D vwCl (ot cI cL) s) (hP : va_P D vwCl (ow cI cL ad σ) H) (hsz : ls.size = nL) (hW : (rest.map fun v => v.category).sum ≤ 8) (hcs : cells ≤ R.cells ∧ slots ≤ R.slots) (hdg : decode cc pc = .ok (.invokestatic index, 3)) (kk : W p l e R s m args below meth c H locs cells slots Q (F0 m (pc + 3) ls (.long (ob_fd x y) :: rest))) : W p l e R s m args below meth c H locs cells slots Q (F0 m pc ls (.long y :: .long x :: rest)) :=
  ok_SRJ (As := [.long x, .long y]) F (c_JM_floorDiv σ hy0) 2 (tt_SJ hG s_JM_floorDiv in9_JM k_JM_floorDiv) rfl ⟨rfl, rfl⟩ (by decide +kernel) hR hK hP rfl hsz rfl hW hcs hdg kk
set_option maxHeartbeats 4000000 in
set_option maxRecDepth 100000 in
theorem c_OB_isNoColumn (σ : oS) {x : Int32} : ok_MR l y_OB_isNoColumn (Cond.code y_OB_isNoColumn b_OB_isNoColumn 2 (some .boolean) :: tt) { frames := 1, cells := 0, slots := 0, locals := 20 } D vwCl (ot cI cL) (ow cI cL ad σ) [.ref (ad 0), .int x] (some (.int (ob_c σ x))) := by
  refine ok_startR (cc := b_OB_isNoColumn) (own := ROB) (maxL := 2) (ret := (some .boolean)) (by decide +kernel) rfl rfl (Nat.le_of_ble_eq_true rfl) ?_
  intro p e s m below meth c F hr hlk hP hK ls hl
  have hl : lv_has ls 2 [(0, .ref (ad 0)), (1, .int x)] := hl
  have hx := F.1
  have hb := F.2.1
  refine lv_iload_n hx hb d_OB_isNoColumn_0 rfl (lv_at hl 1 rfl) ?_
  refine lv_if_lt (tgt := 15) hx hb d_OB_isNoColumn_1 (by decide) (fun c1 => ?_) (fun c1 => ?_)
  · refine lv_iconst (v := 1) hx hb d_OB_isNoColumn_15 (by decide) ?_
    refine lv_goto (tgt := 20) hx hb d_OB_isNoColumn_16 (by decide) ?_
    exact ok_zretR F hr hlk (rfl) (by simp [ob_c, c1]) d_OB_isNoColumn_20
  · refine lv_iload_n hx hb d_OB_isNoColumn_4 rfl (lv_at hl 1 rfl) ?_
    refine lv_aload_n hx hb d_OB_isNoColumn_5 rfl (lv_at hl 0 rfl) ?_
    refine gf_OB_columns F hK hP d_OB_isNoColumn_6 ?_
    refine x_Co_count F (tt1 174 rfl rfl) ⟨Nat.le_of_ble_eq_true rfl, Nat.le_of_ble_eq_true rfl⟩ hK hP hl.1 (Nat.le_of_ble_eq_true rfl) ⟨Nat.zero_le _, Nat.zero_le _⟩ d_OB_isNoColumn_9 ?_
    refine lv_icmp_lt (tgt := 19) hx hb d_OB_isNoColumn_12 (by decide) (fun c2 => ?_) (fun c2 => ?_)
    · refine lv_iconst (v := 0) hx hb d_OB_isNoColumn_19 (by decide) ?_
      exact ok_zretR F hr hlk (rfl) (by simp [ob_c, c1, c2]) d_OB_isNoColumn_20
    · refine lv_iconst (v := 1) hx hb d_OB_isNoColumn_15 (by decide) ?_
      refine lv_goto (tgt := 20) hx hb d_OB_isNoColumn_16 (by decide) ?_
      exact ok_zretR F hr hlk (rfl) (by simp [ob_c, c1, c2]) d_OB_isNoColumn_20
theorem x_OB_isNoColumn {σ : oS} {x : Int32} (F : CallFix p m c cc nL s args (cw :: tt) own) (hG : Cond.methodLink own index y_OB_isNoColumn ∈ tt) (hR : 1 + 1 ≤ R.frames ∧ 8 + (2 + 11) + 20 ≤ R.locals) (hK : va_K D vwCl (ot cI cL) s) (hP : va_P D vwCl (ow cI cL ad σ) H) (hsz : ls.size = nL) (hW : (rest.map fun v => v.category).sum ≤ 8) (hcs : cells ≤ R.cells ∧ slots ≤ R.slots) (hdg : decode cc pc = .ok (.invokevirtual index, 3)) (kk : W p l e R s m args below meth c H locs cells slots Q (F0 m (pc + 3) ls (.int (ob_c σ x) :: rest))) : W p l e R s m args below meth c H locs cells slots Q (F0 m pc ls (.int x :: .ref (ad 0) :: rest)) :=
  ok_VR (As := [.int x]) F (c_OB_isNoColumn σ) 1 (tt_V hG i_OB_isNoColumn l_OB_isNoColumn in9_OB k_OB_isNoColumn) rfl ⟨rfl, rfl⟩ (by decide +kernel) hR hK hP (0) 5 rfl rfl ow_0 rfl hsz rfl hW hcs hdg kk
set_option maxHeartbeats 4000000 in
set_option maxRecDepth 100000 in
theorem c_OB_isNoRow (σ : oS) {x : Int32} : ok_MR l y_OB_isNoRow (Cond.code y_OB_isNoRow b_OB_isNoRow 2 (some .boolean) :: tt) { frames := 1, cells := 0, slots := 0, locals := 20 } D vwCl (ot cI cL) (ow cI cL ad σ) [.ref (ad 0), .int x] (some (.int (ob_r σ x))) := by
  refine ok_startR (cc := b_OB_isNoRow) (own := ROB) (maxL := 2) (ret := (some .boolean)) (by decide +kernel) rfl rfl (Nat.le_of_ble_eq_true rfl) ?_
  intro p e s m below meth c F hr hlk hP hK ls hl
  have hl : lv_has ls 2 [(0, .ref (ad 0)), (1, .int x)] := hl
  have hx := F.1
  have hb := F.2.1
  refine lv_iload_n hx hb d_OB_isNoRow_0 rfl (lv_at hl 1 rfl) ?_
  refine lv_if_lt (tgt := 15) hx hb d_OB_isNoRow_1 (by decide) (fun c1 => ?_) (fun c1 => ?_)
  · refine lv_iconst (v := 1) hx hb d_OB_isNoRow_15 (by decide) ?_
    refine lv_goto (tgt := 20) hx hb d_OB_isNoRow_16 (by decide) ?_
    exact ok_zretR F hr hlk (rfl) (by simp [ob_r, c1]) d_OB_isNoRow_20
  · refine lv_iload_n hx hb d_OB_isNoRow_4 rfl (lv_at hl 1 rfl) ?_
    refine lv_aload_n hx hb d_OB_isNoRow_5 rfl (lv_at hl 0 rfl) ?_
    refine gf_OB_lines F hK hP d_OB_isNoRow_6 ?_
    refine x_Ls_rowCount F (tt2 124 rfl rfl) ⟨Nat.le_of_ble_eq_true rfl, Nat.le_of_ble_eq_true rfl⟩ hK hP hl.1 (Nat.le_of_ble_eq_true rfl) ⟨Nat.zero_le _, Nat.zero_le _⟩ d_OB_isNoRow_9 ?_
    refine lv_icmp_lt (tgt := 19) hx hb d_OB_isNoRow_12 (by decide) (fun c2 => ?_) (fun c2 => ?_)
    · refine lv_iconst (v := 0) hx hb d_OB_isNoRow_19 (by decide) ?_
      exact ok_zretR F hr hlk (rfl) (by simp [ob_r, c1, c2]) d_OB_isNoRow_20
    · refine lv_iconst (v := 1) hx hb d_OB_isNoRow_15 (by decide) ?_
      refine lv_goto (tgt := 20) hx hb d_OB_isNoRow_16 (by decide) ?_
      exact ok_zretR F hr hlk (rfl) (by simp [ob_r, c1, c2]) d_OB_isNoRow_20
theorem x_OB_isNoRow {σ : oS} {x : Int32} (F : CallFix p m c cc nL s args (cw :: tt) own) (hG : Cond.methodLink own index y_OB_isNoRow ∈ tt) (hR : 1 + 1 ≤ R.frames ∧ 8 + (2 + 11) + 20 ≤ R.locals) (hK : va_K D vwCl (ot cI cL) s) (hP : va_P D vwCl (ow cI cL ad σ) H) (hsz : ls.size = nL) (hW : (rest.map fun v => v.category).sum ≤ 8) (hcs : cells ≤ R.cells ∧ slots ≤ R.slots) (hdg : decode cc pc = .ok (.invokevirtual index, 3)) (kk : W p l e R s m args below meth c H locs cells slots Q (F0 m (pc + 3) ls (.int (ob_r σ x) :: rest))) : W p l e R s m args below meth c H locs cells slots Q (F0 m pc ls (.int x :: .ref (ad 0) :: rest)) :=
  ok_VR (As := [.int x]) F (c_OB_isNoRow σ) 1 (tt_V hG i_OB_isNoRow l_OB_isNoRow in9_OB k_OB_isNoRow) rfl ⟨rfl, rfl⟩ (by decide +kernel) hR hK hP (0) 5 rfl rfl ow_0 rfl hsz rfl hW hcs hdg kk
set_option maxHeartbeats 4000000 in
set_option maxRecDepth 100000 in
theorem c_OB_isNoPair (σ : oS) {x : Int32} {y : Int32} : ok_MR l y_OB_isNoPair (Cond.code y_OB_isNoPair b_OB_isNoPair 3 (some .boolean) :: tt) { frames := 2, cells := 0, slots := 0, locals := 41 } D vwCl (ot cI cL) (ow cI cL ad σ) [.ref (ad 0), .int x, .int y] (some (.int (ob_p σ x y))) := by
  refine ok_startR (cc := b_OB_isNoPair) (own := ROB) (maxL := 3) (ret := (some .boolean)) (by decide +kernel) rfl rfl (Nat.le_of_ble_eq_true rfl) ?_
  intro p e s m below meth c F hr hlk hP hK ls hl
  have hl : lv_has ls 3 [(0, .ref (ad 0)), (1, .int x), (2, .int y)] := hl
  have hx := F.1
  have hb := F.2.1
  refine lv_aload_n hx hb d_OB_isNoPair_0 rfl (lv_at hl 0 rfl) ?_
  refine lv_iload_n hx hb d_OB_isNoPair_1 rfl (lv_at hl 1 rfl) ?_
  refine x_OB_isNoColumn F (tt2 177 rfl rfl) ⟨Nat.le_of_ble_eq_true rfl, Nat.le_of_ble_eq_true rfl⟩ hK hP hl.1 (Nat.le_of_ble_eq_true rfl) ⟨Nat.zero_le _, Nat.zero_le _⟩ d_OB_isNoPair_2 ?_
  refine lv_if_ne (tgt := 21) hx hb d_OB_isNoPair_5 (by decide) (fun c1 => ?_) (fun c1 => ?_)
  · refine lv_iconst (v := 1) hx hb d_OB_isNoPair_21 (by decide) ?_
    refine lv_goto (tgt := 26) hx hb d_OB_isNoPair_22 (by decide) ?_
    exact ok_zretR F hr hlk (rfl) (by simp [ob_p, c1]) d_OB_isNoPair_26
  · refine lv_aload_n hx hb d_OB_isNoPair_8 rfl (lv_at hl 0 rfl) ?_
    refine lv_iload_n hx hb d_OB_isNoPair_9 rfl (lv_at hl 2 rfl) ?_
    refine x_OB_isNoColumn F (tt2 177 rfl rfl) ⟨Nat.le_of_ble_eq_true rfl, Nat.le_of_ble_eq_true rfl⟩ hK hP hl.1 (Nat.le_of_ble_eq_true rfl) ⟨Nat.zero_le _, Nat.zero_le _⟩ d_OB_isNoPair_10 ?_
    refine lv_if_ne (tgt := 21) hx hb d_OB_isNoPair_13 (by decide) (fun c2 => ?_) (fun c2 => ?_)
    · refine lv_iconst (v := 1) hx hb d_OB_isNoPair_21 (by decide) ?_
      refine lv_goto (tgt := 26) hx hb d_OB_isNoPair_22 (by decide) ?_
      exact ok_zretR F hr hlk (rfl) (by simp [ob_p, c1, c2]) d_OB_isNoPair_26
    · refine lv_iload_n hx hb d_OB_isNoPair_16 rfl (lv_at hl 1 rfl) ?_
      refine lv_iload_n hx hb d_OB_isNoPair_17 rfl (lv_at hl 2 rfl) ?_
      refine lv_icmp_ne (tgt := 25) hx hb d_OB_isNoPair_18 (by decide) (fun c3 => ?_) (fun c3 => ?_)
      · refine lv_iconst (v := 0) hx hb d_OB_isNoPair_25 (by decide) ?_
        exact ok_zretR F hr hlk (rfl) (by simp [ob_p, c1, c2, c3]) d_OB_isNoPair_26
      · refine lv_iconst (v := 1) hx hb d_OB_isNoPair_21 (by decide) ?_
        refine lv_goto (tgt := 26) hx hb d_OB_isNoPair_22 (by decide) ?_
        exact ok_zretR F hr hlk (rfl) (by simp [ob_p, c1, c2, c3]) d_OB_isNoPair_26
theorem x_OB_isNoPair {σ : oS} {x : Int32} {y : Int32} (F : CallFix p m c cc nL s args (cw :: tt) own) (hG : Cond.methodLink own index y_OB_isNoPair ∈ tt) (hR : 2 + 1 ≤ R.frames ∧ 8 + (3 + 11) + 41 ≤ R.locals) (hK : va_K D vwCl (ot cI cL) s) (hP : va_P D vwCl (ow cI cL ad σ) H) (hsz : ls.size = nL) (hW : (rest.map fun v => v.category).sum ≤ 8) (hcs : cells ≤ R.cells ∧ slots ≤ R.slots) (hdg : decode cc pc = .ok (.invokevirtual index, 3)) (kk : W p l e R s m args below meth c H locs cells slots Q (F0 m (pc + 3) ls (.int (ob_p σ x y) :: rest))) : W p l e R s m args below meth c H locs cells slots Q (F0 m pc ls (.int y :: .int x :: .ref (ad 0) :: rest)) :=
  ok_VR (As := [.int x, .int y]) F (c_OB_isNoPair σ) 2 (tt_V hG i_OB_isNoPair l_OB_isNoPair in9_OB k_OB_isNoPair) rfl ⟨rfl, rfl⟩ (by decide +kernel) hR hK hP (0) 5 rfl rfl ow_0 rfl hsz rfl hW hcs hdg kk
set_option maxHeartbeats 4000000 in
set_option maxRecDepth 100000 in
theorem c_OB_isNoRight (σ : oS) {x : Int32} : ok_MR l y_OB_isNoRight (Cond.code y_OB_isNoRight b_OB_isNoRight 1 (some .boolean) :: tt) { frames := 0, cells := 0, slots := 0, locals := 0 } D vwCl (ot cI cL) (ow cI cL ad σ) [.int x] (some (.int (ob_v x))) := by
  refine ok_startR (cc := b_OB_isNoRight) (own := ROB) (maxL := 1) (ret := (some .boolean)) (by decide +kernel) rfl rfl (Nat.le_of_ble_eq_true rfl) ?_
  intro p e s m below meth c F hr hlk hP hK ls hl
  have hl : lv_has ls 1 [(0, .int x)] := hl
  have hx := F.1
  have hb := F.2.1
  refine lv_iload_n hx hb d_OB_isNoRight_0 rfl (lv_at hl 0 rfl) ?_
  refine lv_sipush (v := -10000) hx hb d_OB_isNoRight_1 (by decide) ?_
  refine lv_icmp_lt (tgt := 14) hx hb d_OB_isNoRight_4 (by decide) (fun c1 => ?_) (fun c1 => ?_)
  · refine lv_iconst (v := 1) hx hb d_OB_isNoRight_14 (by decide) ?_
    refine lv_goto (tgt := 19) hx hb d_OB_isNoRight_15 (by decide) ?_
    exact ok_zretR F hr hlk (rfl) (by simp [ob_v, c1]) d_OB_isNoRight_19
  · refine lv_iload_n hx hb d_OB_isNoRight_7 rfl (lv_at hl 0 rfl) ?_
    refine lv_sipush (v := 10000) hx hb d_OB_isNoRight_8 (by decide) ?_
    refine lv_icmp_le (tgt := 18) hx hb d_OB_isNoRight_11 (by decide) (fun c2 => ?_) (fun c2 => ?_)
    · refine lv_iconst (v := 0) hx hb d_OB_isNoRight_18 (by decide) ?_
      exact ok_zretR F hr hlk (rfl) (by simp [ob_v, c1, c2]) d_OB_isNoRight_19
    · refine lv_iconst (v := 1) hx hb d_OB_isNoRight_14 (by decide) ?_
      refine lv_goto (tgt := 19) hx hb d_OB_isNoRight_15 (by decide) ?_
      exact ok_zretR F hr hlk (rfl) (by simp [ob_v, c1, c2]) d_OB_isNoRight_19
theorem x_OB_isNoRight {σ : oS} {x : Int32} (F : CallFix p m c cc nL s args (cw :: tt) ROB) (hG : Cond.methodLink ROB index y_OB_isNoRight ∈ tt) (hR : 0 + 1 ≤ R.frames ∧ 8 + (1 + 11) + 0 ≤ R.locals) (hK : va_K D vwCl (ot cI cL) s) (hP : va_P D vwCl (ow cI cL ad σ) H) (hsz : ls.size = nL) (hW : (rest.map fun v => v.category).sum ≤ 8) (hcs : cells ≤ R.cells ∧ slots ≤ R.slots) (hdg : decode cc pc = .ok (.invokestatic index, 3)) (kk : W p l e R s m args below meth c H locs cells slots Q (F0 m (pc + 3) ls (.int (ob_v x) :: rest))) : W p l e R s m args below meth c H locs cells slots Q (F0 m pc ls (.int x :: rest)) :=
  ok_SR (As := [.int x]) F (c_OB_isNoRight σ) 1 (tt_S hG s_OB_isNoRight in9_OB k_OB_isNoRight) rfl ⟨rfl, rfl⟩ (by decide +kernel) hR hK hP rfl hsz rfl hW hcs hdg kk
set_option maxHeartbeats 4000000 in
set_option maxRecDepth 100000 in
theorem c_OB_packedNumber (σ : oS) {x : Int32} {y : Int32} : ok_MR l y_OB_packedNumber (Cond.code y_OB_packedNumber b_OB_packedNumber 2 (some .int) :: tt) { frames := 0, cells := 0, slots := 0, locals := 0 } D vwCl (ot cI cL) (ow cI cL ad σ) [.int x, .int y] (some (.int (ob_u x y))) := by
  refine ok_startR (cc := b_OB_packedNumber) (own := ROB) (maxL := 2) (ret := (some .int)) (by decide +kernel) rfl rfl (Nat.le_of_ble_eq_true rfl) ?_
  intro p e s m below meth c F hr hlk hP hK ls hl
  have hl : lv_has ls 2 [(0, .int x), (1, .int y)] := hl
  have hx := F.1
  have hb := F.2.1
  refine lv_iload_n hx hb d_OB_packedNumber_0 rfl (lv_at hl 0 rfl) ?_
  refine lv_bipush (v := 6) hx hb d_OB_packedNumber_1 (by decide) ?_
  refine lv_iload_n hx hb d_OB_packedNumber_3 rfl (lv_at hl 1 rfl) ?_
  refine lv_imul hx hb d_OB_packedNumber_4 ?_
  refine lv_iushr hx hb d_OB_packedNumber_5 rfl ?_
  refine lv_bipush (v := 63) hx hb d_OB_packedNumber_6 (by decide) ?_
  refine lv_iand hx hb d_OB_packedNumber_8 ?_
  exact ok_iretR F hr hlk (rfl) d_OB_packedNumber_9
theorem x_OB_packedNumber {σ : oS} {x : Int32} {y : Int32} (F : CallFix p m c cc nL s args (cw :: tt) ROB) (hG : Cond.methodLink ROB index y_OB_packedNumber ∈ tt) (hR : 0 + 1 ≤ R.frames ∧ 8 + (2 + 11) + 0 ≤ R.locals) (hK : va_K D vwCl (ot cI cL) s) (hP : va_P D vwCl (ow cI cL ad σ) H) (hsz : ls.size = nL) (hW : (rest.map fun v => v.category).sum ≤ 8) (hcs : cells ≤ R.cells ∧ slots ≤ R.slots) (hdg : decode cc pc = .ok (.invokestatic index, 3)) (kk : W p l e R s m args below meth c H locs cells slots Q (F0 m (pc + 3) ls (.int (ob_u x y) :: rest))) : W p l e R s m args below meth c H locs cells slots Q (F0 m pc ls (.int y :: .int x :: rest)) :=
  ok_SR (As := [.int x, .int y]) F (c_OB_packedNumber σ) 2 (tt_S hG s_OB_packedNumber in9_OB k_OB_packedNumber) rfl ⟨rfl, rfl⟩ (by decide +kernel) hR hK hP rfl hsz rfl hW hcs hdg kk
set_option maxHeartbeats 4000000 in
set_option maxRecDepth 100000 in
theorem c_OB_packedSum (σ : oS) {n : Nat} (hn : σ 2 0 0 = nI n) (hn9 : n ≤ 5) {x : Int32} {i : Nat} (hi : i < 8) : ok_MR l y_OB_packedSum (Cond.code y_OB_packedSum b_OB_packedSum 5 (some .int) :: tt) { frames := 1, cells := 0, slots := 0, locals := 21 } D vwCl (ot cI cL) (ow cI cL ad σ) [.ref (ad 0), .int x, .ref (ad (4 * i + 14))] (some (.int (ob_s σ i x n))) := by
  refine ok_startR (cc := b_OB_packedSum) (own := ROB) (maxL := 5) (ret := (some .int)) (by decide +kernel) rfl rfl (Nat.le_of_ble_eq_true rfl) ?_
  intro p e s m below meth c F hr hlk hP hK ls hl
  have hl : lv_has ls 5 [(0, .ref (ad 0)), (1, .int x), (2, .ref (ad (4 * i + 14)))] := hl
  have hx := F.1
  have hb := F.2.1
  have lp : ∀ (f k : Nat), k ≤ n → n - k < f → ∀ ls : Array Slot, lv_has ls 5 [(4, .int (nI k)), (3, .int (ob_s σ i x k)), (0, .ref (ad 0)), (1, .int x), (2, .ref (ad (4 * i + 14)))] → W p l e { frames := 1, cells := 0, slots := 0, locals := 21 } s m ([.ref (ad 0), .int x, .ref (ad (4 * i + 14))] : List Value).toArray below meth c s.heap [] 0 0 (MQ below (ok_R (some (.int (ob_s σ i x n)))) ([.ref (ad 0), .int x, .ref (ad (4 * i + 14))] : List Value).toArray s 0 0 (fun _ => False)) (F0 m 5 ls []) := by
    intro f
    induction f with
    | zero => intro k h1 h2; omega
    | succ f ih =>
      intro k h1 h2 ls hl
      refine lv_iload hx hb d_OB_packedSum_5 (lv_at hl 0 rfl) ?_
      refine lv_aload_n hx hb d_OB_packedSum_7 rfl (lv_at hl 2 rfl) ?_
      refine gf_OB_columns F hK hP d_OB_packedSum_8 ?_
      refine x_Co_count F (tt1 174 rfl rfl) ⟨Nat.le_of_ble_eq_true rfl, Nat.le_of_ble_eq_true rfl⟩ hK hP hl.1 (Nat.le_of_ble_eq_true rfl) ⟨Nat.zero_le _, Nat.zero_le _⟩ d_OB_packedSum_11 ?_
      refine lv_icmp_ge (tgt := 39) hx hb d_OB_packedSum_14 (by decide) (fun c1 => ?_) (fun c1 => ?_)
      · have hkn : n = k := by
          rw [hn, nI_leI (by omega) (by omega)] at c1; omega
        subst hkn
        refine lv_iload_n hx hb d_OB_packedSum_39 rfl (lv_at hl 1 rfl) ?_
        exact ok_iretR F hr hlk (rfl) d_OB_packedSum_40
      · have hkn : k < n := by
          rw [hn, nI_leI (by omega) (by omega)] at c1; omega
        refine lv_iload_n hx hb d_OB_packedSum_17 rfl (lv_at hl 1 rfl) ?_
        refine lv_aload_n hx hb d_OB_packedSum_18 rfl (lv_at hl 4 rfl) ?_
        refine lv_iload hx hb d_OB_packedSum_19 (lv_at hl 0 rfl) ?_
        refine x_Li_factorOf (i := i) hi (j := k) rfl (by omega) F (tt1 235 rfl rfl) ⟨Nat.le_of_ble_eq_true rfl, Nat.le_of_ble_eq_true rfl⟩ hK hP hl.1 (Nat.le_of_ble_eq_true rfl) ⟨Nat.zero_le _, Nat.zero_le _⟩ d_OB_packedSum_21 ?_
        refine lv_iload_n hx hb d_OB_packedSum_24 rfl (lv_at hl 3 rfl) ?_
        refine lv_iload hx hb d_OB_packedSum_25 (lv_at hl 0 rfl) ?_
        refine x_OB_packedNumber F (tt1 228 rfl rfl) ⟨Nat.le_of_ble_eq_true rfl, Nat.le_of_ble_eq_true rfl⟩ hK hP hl.1 (Nat.le_of_ble_eq_true rfl) ⟨Nat.zero_le _, Nat.zero_le _⟩ d_OB_packedSum_27 ?_
        refine lv_imul hx hb d_OB_packedSum_30 ?_
        refine lv_iadd hx hb d_OB_packedSum_31 ?_
        refine lv_istore_n (lv' := [(3, .int ((ob_s σ i x k) + ((σ 3 i k) * (ob_u x (nI k))))), (4, .int (nI k)), (0, .ref (ad 0)), (1, .int x), (2, .ref (ad (4 * i + 14)))]) hx hb d_OB_packedSum_32 rfl hl (by decide) rfl (fun ls hl => ?_)
        refine lv_iinc (v := nI (k + 1)) (lv' := [(4, .int (nI (k + 1))), (3, .int ((ob_s σ i x k) + ((σ 3 i k) * (ob_u x (nI k))))), (0, .ref (ad 0)), (1, .int x), (2, .ref (ad (4 * i + 14)))]) hx hb d_OB_packedSum_33 hl (k := 1) rfl (nI_inc _) (by decide) rfl (fun ls hl => ?_)
        refine lv_goto (tgt := 5) hx hb d_OB_packedSum_36 (by decide) ?_
        exact ih (k + 1) (by omega) (by omega) ls (lv_sub hl [0, 1, 2, 3, 4] rfl)
  refine lv_iconst (v := 0) hx hb d_OB_packedSum_0 (by decide) ?_
  refine lv_istore_n (lv' := [(3, .int 0), (0, .ref (ad 0)), (1, .int x), (2, .ref (ad (4 * i + 14)))]) hx hb d_OB_packedSum_1 rfl hl (by decide) rfl (fun ls hl => ?_)
  refine lv_iconst (v := 0) hx hb d_OB_packedSum_2 (by decide) ?_
  refine lv_istore (lv' := [(4, .int 0), (3, .int 0), (0, .ref (ad 0)), (1, .int x), (2, .ref (ad (4 * i + 14)))]) hx hb d_OB_packedSum_3 hl (by decide) rfl (fun ls hl => ?_)
  exact lp (n + 1) 0 (by omega) (by omega) ls (lv_sub hl [0, 1, 2, 3, 4] rfl)
theorem x_OB_packedSum {σ : oS} {n : Nat} (hn : σ 2 0 0 = nI n) (hn9 : n ≤ 5) {x : Int32} {i : Nat} (hi : i < 8) (F : CallFix p m c cc nL s args (cw :: tt) own) (hG : Cond.methodLink own index y_OB_packedSum ∈ tt) (hR : 1 + 1 ≤ R.frames ∧ 8 + (5 + 11) + 21 ≤ R.locals) (hK : va_K D vwCl (ot cI cL) s) (hP : va_P D vwCl (ow cI cL ad σ) H) (hsz : ls.size = nL) (hW : (rest.map fun v => v.category).sum ≤ 8) (hcs : cells ≤ R.cells ∧ slots ≤ R.slots) (hdg : decode cc pc = .ok (.invokevirtual index, 3)) (kk : W p l e R s m args below meth c H locs cells slots Q (F0 m (pc + 3) ls (.int (ob_s σ i x n) :: rest))) : W p l e R s m args below meth c H locs cells slots Q (F0 m pc ls (.ref (ad (4 * i + 14)) :: .int x :: .ref (ad 0) :: rest)) :=
  ok_VR (As := [.int x, .ref (ad (4 * i + 14))]) F (c_OB_packedSum σ hn hn9 hi) 2 (tt_V hG i_OB_packedSum l_OB_packedSum in9_OB k_OB_packedSum) rfl ⟨rfl, rfl⟩ (by decide +kernel) hR hK hP (0) 5 rfl rfl ow_0 rfl hsz rfl hW hcs hdg kk
set_option maxHeartbeats 4000000 in
set_option maxRecDepth 100000 in
theorem c_OB_certificate (σ : oS) {r : Nat} {u : Nat} (h_r : σ 9 0 0 = nI r) (h_u : σ 10 0 0 = nI u) (hr4 : r ≤ 4) (hu4 : u ≤ 4) {n : Nat} (hn : σ 2 0 0 = nI n) (hn9 : n ≤ 5) : ok_MR l y_OB_certificate (Cond.code y_OB_certificate b_OB_certificate 6 (some .long) :: tt) { frames := 2, cells := 0, slots := 0, locals := 45 } D vwCl (ot cI cL) (ow cI cL ad σ) [.ref (ad 0)] (some (.long (ob_fd (ob_C σ r u n) 1000))) := by
  refine ok_startR (cc := b_OB_certificate) (own := ROB) (maxL := 6) (ret := (some .long)) (by decide +kernel) rfl rfl (Nat.le_of_ble_eq_true rfl) ?_
  intro p e s m below meth c F hr hlk hP hK ls hl
  have hl : lv_has ls 6 [(0, .ref (ad 0))] := hl
  have hx := F.1
  have hb := F.2.1
  have lp : ∀ (f k : Nat), k ≤ n → n - k < f → ∀ ls : Array Slot, lv_has ls 6 [(3, .int (nI k)), (1, .long (ob_C σ r u k)), (0, .ref (ad 0))] → W p l e { frames := 2, cells := 0, slots := 0, locals := 45 } s m ([.ref (ad 0)] : List Value).toArray below meth c s.heap [] 0 0 (MQ below (ok_R (some (.long (ob_fd (ob_C σ r u n) 1000)))) ([.ref (ad 0)] : List Value).toArray s 0 0 (fun _ => False)) (F0 m 10 ls []) := by
    intro f
    induction f with
    | zero => intro k h1 h2; omega
    | succ f ih =>
      intro k h1 h2 ls hl
      refine lv_iload_n hx hb d_OB_certificate_10 rfl (lv_at hl 0 rfl) ?_
      refine lv_aload_n hx hb d_OB_certificate_11 rfl (lv_at hl 2 rfl) ?_
      refine gf_OB_columns F hK hP d_OB_certificate_12 ?_
      refine x_Co_count F (tt1 174 rfl rfl) ⟨Nat.le_of_ble_eq_true rfl, Nat.le_of_ble_eq_true rfl⟩ hK hP hl.1 (Nat.le_of_ble_eq_true rfl) ⟨Nat.zero_le _, Nat.zero_le _⟩ d_OB_certificate_15 ?_
      refine lv_icmp_ge (tgt := 73) hx hb d_OB_certificate_18 (by decide) (fun c1 => ?_) (fun c1 => ?_)
      · have hkn : k = n := by
          rw [hn, nI_leI (by omega) (by omega)] at c1; omega
        subst hkn
        refine lv_lload_n hx hb d_OB_certificate_73 rfl (lv_at hl 1 rfl) ?_
        refine lv_ldc2 (v := 1000) hx hb F.2.2.2.1 (F.2.2.2.2 (.constantLong ROB 179 (1000)) (List.mem_cons_of_mem _ (tt1 178 rfl rfl))) d_OB_certificate_74 ?_
        refine x_JM_floorDiv (by decide) F (tt1 195 rfl rfl) ⟨Nat.le_of_ble_eq_true rfl, Nat.le_of_ble_eq_true rfl⟩ hK hP hl.1 (Nat.le_of_ble_eq_true rfl) ⟨Nat.zero_le _, Nat.zero_le _⟩ d_OB_certificate_77 ?_
        exact ok_lretR F hr hlk (rfl) d_OB_certificate_80
      · have hkn : k < n := by
          rw [hn, nI_leI (by omega) (by omega)] at c1; omega
        refine lv_ldc2 (v := 1000) hx hb F.2.2.2.1 (F.2.2.2.2 (.constantLong ROB 179 (1000)) (List.mem_cons_of_mem _ (tt1 178 rfl rfl))) d_OB_certificate_21 ?_
        refine lv_aload_n hx hb d_OB_certificate_24 rfl (lv_at hl 2 rfl) ?_
        refine gf_OB_columns F hK hP d_OB_certificate_25 ?_
        refine lv_iload_n hx hb d_OB_certificate_28 rfl (lv_at hl 0 rfl) ?_
        refine x_Co_worth (j := k) rfl (by omega) F (tt1 179 rfl rfl) ⟨Nat.le_of_ble_eq_true rfl, Nat.le_of_ble_eq_true rfl⟩ hK hP hl.1 (Nat.le_of_ble_eq_true rfl) ⟨Nat.zero_le _, Nat.zero_le _⟩ d_OB_certificate_29 ?_
        refine lv_i2l hx hb d_OB_certificate_32 rfl ?_
        refine lv_lmul hx hb d_OB_certificate_33 ?_
        refine lv_aload_n hx hb d_OB_certificate_34 rfl (lv_at hl 2 rfl) ?_
        refine gf_OB_lines F hK hP d_OB_certificate_35 ?_
        refine lv_iload_n hx hb d_OB_certificate_38 rfl (lv_at hl 0 rfl) ?_
        refine x_Ls_weightedFactors (r := r) (u := u) h_r h_u hr4 hu4 (j := k) rfl (by omega) F (tt1 183 rfl rfl) ⟨Nat.le_of_ble_eq_true rfl, Nat.le_of_ble_eq_true rfl⟩ hK hP hl.1 (Nat.le_of_ble_eq_true rfl) ⟨Nat.zero_le _, Nat.zero_le _⟩ d_OB_certificate_39 ?_
        refine lv_lsub hx hb d_OB_certificate_42 ?_
        refine lv_lstore (lv' := [(4, .long ((1000 * (Int32.toInt64 (σ 0 0 k))) - (ls_wf σ r k (r + u)))), (3, .int (nI k)), (1, .long (ob_C σ r u k)), (0, .ref (ad 0))]) hx hb d_OB_certificate_43 hl (by decide) rfl (fun ls hl => ?_)
        refine lv_lload hx hb d_OB_certificate_45 (lv_at hl 0 rfl) ?_
        refine lv_lconst (v := 0) hx hb d_OB_certificate_47 (by decide) ?_
        refine W.lcmp hx hb d_OB_certificate_48 ?_
        refine lv_if_le (tgt := 67) hx hb d_OB_certificate_49 (by decide) (fun c2 => ?_) (fun c2 => ?_)
        · refine lv_iinc (v := nI (k + 1)) (lv' := [(3, .int (nI (k + 1))), (4, .long ((1000 * (Int32.toInt64 (σ 0 0 k))) - (ls_wf σ r k (r + u)))), (1, .long (ob_C σ r u k)), (0, .ref (ad 0))]) hx hb d_OB_certificate_67 hl (k := 1) rfl (nI_inc _) (by decide) rfl (fun ls hl => ?_)
          refine lv_goto (tgt := 10) hx hb d_OB_certificate_70 (by decide) ?_
          have e9 : ob_C σ r u (k + 1) = ob_C σ r u k := by
            rw [ob_C]; unfold ob_R; first | rw [if_pos c2] | rw [if_neg c2]
          exact ih (k + 1) (by omega) (by omega) ls (by rw [e9]; exact (lv_sub hl [0, 2, 3] rfl))
        · refine lv_lload_n hx hb d_OB_certificate_52 rfl (lv_at hl 2 rfl) ?_
          refine lv_aload_n hx hb d_OB_certificate_53 rfl (lv_at hl 3 rfl) ?_
          refine gf_OB_columns F hK hP d_OB_certificate_54 ?_
          refine lv_iload_n hx hb d_OB_certificate_57 rfl (lv_at hl 1 rfl) ?_
          refine x_Co_top (j := k) rfl (by omega) F (tt1 191 rfl rfl) ⟨Nat.le_of_ble_eq_true rfl, Nat.le_of_ble_eq_true rfl⟩ hK hP hl.1 (Nat.le_of_ble_eq_true rfl) ⟨Nat.zero_le _, Nat.zero_le _⟩ d_OB_certificate_58 ?_
          refine lv_i2l hx hb d_OB_certificate_61 rfl ?_
          refine lv_lload hx hb d_OB_certificate_62 (lv_at hl 0 rfl) ?_
          refine lv_lmul hx hb d_OB_certificate_64 ?_
          refine lv_ladd hx hb d_OB_certificate_65 ?_
          refine lv_lstore_n (lv' := [(1, .long ((ob_C σ r u k) + ((Int32.toInt64 (σ 1 0 k)) * ((1000 * (Int32.toInt64 (σ 0 0 k))) - (ls_wf σ r k (r + u)))))), (4, .long ((1000 * (Int32.toInt64 (σ 0 0 k))) - (ls_wf σ r k (r + u)))), (3, .int (nI k)), (0, .ref (ad 0))]) hx hb d_OB_certificate_66 rfl hl (by decide) rfl (fun ls hl => ?_)
          refine lv_iinc (v := nI (k + 1)) (lv' := [(3, .int (nI (k + 1))), (1, .long ((ob_C σ r u k) + ((Int32.toInt64 (σ 1 0 k)) * ((1000 * (Int32.toInt64 (σ 0 0 k))) - (ls_wf σ r k (r + u)))))), (4, .long ((1000 * (Int32.toInt64 (σ 0 0 k))) - (ls_wf σ r k (r + u)))), (0, .ref (ad 0))]) hx hb d_OB_certificate_67 hl (k := 2) rfl (nI_inc _) (by decide) rfl (fun ls hl => ?_)
          refine lv_goto (tgt := 10) hx hb d_OB_certificate_70 (by decide) ?_
          have e9 : ob_C σ r u (k + 1) = (ob_C σ r u k) + ((Int32.toInt64 (σ 1 0 k)) * ((1000 * (Int32.toInt64 (σ 0 0 k))) - (ls_wf σ r k (r + u)))) := by
            rw [ob_C]; unfold ob_R; first | rw [if_pos c2] | rw [if_neg c2]
          exact ih (k + 1) (by omega) (by omega) ls (by rw [e9]; exact (lv_sub hl [0, 1, 3] rfl))
  refine lv_aload_n hx hb d_OB_certificate_0 rfl (lv_at hl 0 rfl) ?_
  refine gf_OB_lines F hK hP d_OB_certificate_1 ?_
  refine x_Ls_weightedRights (r := r) (u := u) h_r h_u hr4 hu4 F (tt1 154 rfl rfl) ⟨Nat.le_of_ble_eq_true rfl, Nat.le_of_ble_eq_true rfl⟩ hK hP hl.1 (Nat.le_of_ble_eq_true rfl) ⟨Nat.zero_le _, Nat.zero_le _⟩ d_OB_certificate_4 ?_
  refine lv_lstore_n (lv' := [(1, .long (ls_wr σ r (r + u))), (0, .ref (ad 0))]) hx hb d_OB_certificate_7 rfl hl (by decide) rfl (fun ls hl => ?_)
  refine lv_iconst (v := 0) hx hb d_OB_certificate_8 (by decide) ?_
  refine lv_istore_n (lv' := [(3, .int 0), (1, .long (ls_wr σ r (r + u))), (0, .ref (ad 0))]) hx hb d_OB_certificate_9 rfl hl (by decide) rfl (fun ls hl => ?_)
  exact lp (n + 1) 0 (by omega) (by omega) ls (lv_sub hl [0, 1, 2] rfl)
theorem x_OB_certificate {σ : oS} {r : Nat} {u : Nat} (h_r : σ 9 0 0 = nI r) (h_u : σ 10 0 0 = nI u) (hr4 : r ≤ 4) (hu4 : u ≤ 4) {n : Nat} (hn : σ 2 0 0 = nI n) (hn9 : n ≤ 5) (F : CallFix p m c cc nL s args (cw :: tt) own) (hG : Cond.methodLink own index y_OB_certificate ∈ tt) (hR : 2 + 1 ≤ R.frames ∧ 8 + (6 + 11) + 45 ≤ R.locals) (hK : va_K D vwCl (ot cI cL) s) (hP : va_P D vwCl (ow cI cL ad σ) H) (hsz : ls.size = nL) (hW : (rest.map fun v => v.category).sum ≤ 8) (hcs : cells ≤ R.cells ∧ slots ≤ R.slots) (hdg : decode cc pc = .ok (.invokevirtual index, 3)) (kk : W p l e R s m args below meth c H locs cells slots Q (F0 m (pc + 3) ls (.long (ob_fd (ob_C σ r u n) 1000) :: rest))) : W p l e R s m args below meth c H locs cells slots Q (F0 m pc ls (.ref (ad 0) :: rest)) :=
  ok_VR (As := []) F (c_OB_certificate σ h_r h_u hr4 hu4 hn hn9) 0 (tt_V hG i_OB_certificate l_OB_certificate in9_OB k_OB_certificate) rfl ⟨rfl, rfl⟩ (by decide +kernel) hR hK hP (0) 5 rfl rfl ow_0 rfl hsz rfl hW hcs hdg kk
set_option maxHeartbeats 4000000 in
set_option maxRecDepth 100000 in
theorem c_OB_contradiction (σ : oS) {r : Nat} {u : Nat} (h_r : σ 9 0 0 = nI r) (h_u : σ 10 0 0 = nI u) (hr4 : r ≤ 4) (hu4 : u ≤ 4) {n : Nat} (hn : σ 2 0 0 = nI n) (hn9 : n ≤ 5) : ok_MR l y_OB_contradiction (Cond.code y_OB_contradiction b_OB_contradiction 2 (some .int) :: tt) { frames := 3, cells := 0, slots := 0, locals := 67 } D vwCl (ot cI cL) (ow cI cL ad σ) [.ref (ad 0)] (some (.int (ob_o (-1) 0 (ob_D σ r u n)))) := by
  refine ok_startR (cc := b_OB_contradiction) (own := ROB) (maxL := 2) (ret := (some .int)) (by decide +kernel) rfl rfl (Nat.le_of_ble_eq_true rfl) ?_
  intro p e s m below meth c F hr hlk hP hK ls hl
  have hl : lv_has ls 2 [(0, .ref (ad 0))] := hl
  have hx := F.1
  have hb := F.2.1
  have lp : ∀ (f k : Nat), k ≤ (r + u) → (r + u) - k < f → ob_o (-1) 0 (ob_D σ r u n) = ob_o (-1) 0 (ob_first (fun k => li_h σ (ls_i r k) (li_s σ (ls_i r k) n) == 0) (r + u - k) k) → ∀ ls : Array Slot, lv_has ls 2 [(1, .int (nI k)), (0, .ref (ad 0))] → W p l e { frames := 3, cells := 0, slots := 0, locals := 67 } s m ([.ref (ad 0)] : List Value).toArray below meth c s.heap [] 0 0 (MQ below (ok_R (some (.int (ob_o (-1) 0 (ob_D σ r u n))))) ([.ref (ad 0)] : List Value).toArray s 0 0 (fun _ => False)) (F0 m 2 ls []) := by
    intro f
    induction f with
    | zero => intro k h1 h2; omega
    | succ f ih =>
      intro k h1 h2 hin ls hl
      refine lv_iload_n hx hb d_OB_contradiction_2 rfl (lv_at hl 0 rfl) ?_
      refine lv_aload_n hx hb d_OB_contradiction_3 rfl (lv_at hl 1 rfl) ?_
      refine gf_OB_lines F hK hP d_OB_contradiction_4 ?_
      refine x_Ls_count F (tt1 202 rfl rfl) ⟨Nat.le_of_ble_eq_true rfl, Nat.le_of_ble_eq_true rfl⟩ hK hP hl.1 (Nat.le_of_ble_eq_true rfl) ⟨Nat.zero_le _, Nat.zero_le _⟩ d_OB_contradiction_7 ?_
      refine lv_icmp_ge (tgt := 39) hx hb d_OB_contradiction_10 (by decide) (fun c1 => ?_) (fun c1 => ?_)
      · have hkn : (r + u) = k := by
          rw [ls_cnt h_r h_u, nI_leI (by omega) (by omega)] at c1; omega
        subst hkn
        have heq := hin
        refine lv_iconst (v := -1) hx hb d_OB_contradiction_39 (by decide) ?_
        exact ok_iretR F hr hlk (by rw [heq, Nat.sub_self]; rfl) d_OB_contradiction_40
      · have hkn : k < (r + u) := by
          rw [ls_cnt h_r h_u, nI_leI (by omega) (by omega)] at c1; omega
        have heq := hin
        refine lv_aload_n hx hb d_OB_contradiction_13 rfl (lv_at hl 1 rfl) ?_
        refine gf_OB_lines F hK hP d_OB_contradiction_14 ?_
        refine lv_iload_n hx hb d_OB_contradiction_17 rfl (lv_at hl 0 rfl) ?_
        refine x_Ls_at (r := r) (u := u) h_r h_u hr4 hu4 (k := k) rfl (by omega) (by omega) F (tt1 203 rfl rfl) ⟨Nat.le_of_ble_eq_true rfl, Nat.le_of_ble_eq_true rfl⟩ hK hP hl.1 (Nat.le_of_ble_eq_true rfl) ⟨Nat.zero_le _, Nat.zero_le _⟩ d_OB_contradiction_18 ?_
        refine lv_aload_n hx hb d_OB_contradiction_21 rfl (lv_at hl 1 rfl) ?_
        refine gf_OB_columns F hK hP d_OB_contradiction_22 ?_
        refine x_Li_canHold (i := (ls_i r k)) (ls_i_lt hr4 hu4 (by omega)) (n := n) hn hn9 F (tt1 204 rfl rfl) ⟨Nat.le_of_ble_eq_true rfl, Nat.le_of_ble_eq_true rfl⟩ hK hP hl.1 (Nat.le_of_ble_eq_true rfl) ⟨Nat.zero_le _, Nat.zero_le _⟩ d_OB_contradiction_25 ?_
        refine lv_if_ne (tgt := 33) hx hb d_OB_contradiction_28 (by decide) (fun c2 => ?_) (fun c2 => ?_)
        · refine lv_iinc (v := nI (k + 1)) (lv' := [(1, .int (nI (k + 1))), (0, .ref (ad 0))]) hx hb d_OB_contradiction_33 hl (k := 0) rfl (nI_inc _) (by decide) rfl (fun ls hl => ?_)
          refine lv_goto (tgt := 2) hx hb d_OB_contradiction_36 (by decide) ?_
          exact ih (k + 1) (by omega) (by omega) (by rw [hin, show r + u - k = (r + u - (k + 1)) + 1 by omega, ob_first, if_neg (by simp [c2])]) ls (lv_sub hl [0, 1] rfl)
        · refine lv_iload_n hx hb d_OB_contradiction_31 rfl (lv_at hl 0 rfl) ?_
          exact ok_iretR F hr hlk (by rw [heq, show r + u - k = (r + u - (k + 1)) + 1 by omega, ob_first, if_pos (by simp [c2]), ob_o, Int32.zero_add]) d_OB_contradiction_32
  refine lv_iconst (v := 0) hx hb d_OB_contradiction_0 (by decide) ?_
  refine lv_istore_n (lv' := [(1, .int 0), (0, .ref (ad 0))]) hx hb d_OB_contradiction_1 rfl hl (by decide) rfl (fun ls hl => ?_)
  exact lp ((r + u) + 1) 0 (by omega) (by omega) (rfl) ls (lv_sub hl [0, 1] rfl)
theorem x_OB_contradiction {σ : oS} {r : Nat} {u : Nat} (h_r : σ 9 0 0 = nI r) (h_u : σ 10 0 0 = nI u) (hr4 : r ≤ 4) (hu4 : u ≤ 4) {n : Nat} (hn : σ 2 0 0 = nI n) (hn9 : n ≤ 5) (F : CallFix p m c cc nL s args (cw :: tt) own) (hG : Cond.methodLink own index y_OB_contradiction ∈ tt) (hR : 3 + 1 ≤ R.frames ∧ 8 + (2 + 11) + 67 ≤ R.locals) (hK : va_K D vwCl (ot cI cL) s) (hP : va_P D vwCl (ow cI cL ad σ) H) (hsz : ls.size = nL) (hW : (rest.map fun v => v.category).sum ≤ 8) (hcs : cells ≤ R.cells ∧ slots ≤ R.slots) (hdg : decode cc pc = .ok (.invokevirtual index, 3)) (kk : W p l e R s m args below meth c H locs cells slots Q (F0 m (pc + 3) ls (.int (ob_o (-1) 0 (ob_D σ r u n)) :: rest))) : W p l e R s m args below meth c H locs cells slots Q (F0 m pc ls (.ref (ad 0) :: rest)) :=
  ok_VR (As := []) F (c_OB_contradiction σ h_r h_u hr4 hu4 hn hn9) 0 (tt_V hG i_OB_contradiction l_OB_contradiction in9_OB k_OB_contradiction) rfl ⟨rfl, rfl⟩ (by decide +kernel) hR hK hP (0) 5 rfl rfl ow_0 rfl hsz rfl hW hcs hdg kk
set_option maxHeartbeats 4000000 in
set_option maxRecDepth 100000 in
theorem c_OB_check (σ : oS) {r : Nat} {u : Nat} (h_r : σ 9 0 0 = nI r) (h_u : σ 10 0 0 = nI u) (hr4 : r ≤ 4) (hu4 : u ≤ 4) {n : Nat} (hn : σ 2 0 0 = nI n) (hn9 : n ≤ 5) {x : Int32} : ok_MR l y_OB_check (Cond.code y_OB_check b_OB_check 3 (some .int) :: tt) { frames := 2, cells := 0, slots := 0, locals := 45 } D vwCl (ot cI cL) (ow cI cL ad σ) [.ref (ad 0), .int x] (some (.int (ob_H σ r u n x))) := by
  refine ok_startR (cc := b_OB_check) (own := ROB) (maxL := 3) (ret := (some .int)) (by decide +kernel) rfl rfl (Nat.le_of_ble_eq_true rfl) ?_
  intro p e s m below meth c F hr hlk hP hK ls hl
  have hl : lv_has ls 3 [(0, .ref (ad 0)), (1, .int x)] := hl
  have hx := F.1
  have hb := F.2.1
  have lq : ∀ (f k : Nat), k ≤ (r + u) → (r + u) - k < f → ob_H σ r u n x = ob_o 0 101 (ob_first (fun k => li_h σ (ls_i r k) (ob_s σ (ls_i r k) x n) == 0) (r + u - k) k) → ∀ ls : Array Slot, lv_has ls 3 [(2, .int (nI k)), (0, .ref (ad 0)), (1, .int x)] → W p l e { frames := 2, cells := 0, slots := 0, locals := 45 } s m ([.ref (ad 0), .int x] : List Value).toArray below meth c s.heap [] 0 0 (MQ below (ok_R (some (.int (ob_H σ r u n x)))) ([.ref (ad 0), .int x] : List Value).toArray s 0 0 (fun _ => False)) (F0 m 41 ls []) := by
    intro f
    induction f with
    | zero => intro k h1 h2; omega
    | succ f ih =>
      intro k h1 h2 hin ls hl
      refine lv_iload_n hx hb d_OB_check_41 rfl (lv_at hl 0 rfl) ?_
      refine lv_aload_n hx hb d_OB_check_42 rfl (lv_at hl 1 rfl) ?_
      refine gf_OB_lines F hK hP d_OB_check_43 ?_
      refine x_Ls_count F (tt1 202 rfl rfl) ⟨Nat.le_of_ble_eq_true rfl, Nat.le_of_ble_eq_true rfl⟩ hK hP hl.1 (Nat.le_of_ble_eq_true rfl) ⟨Nat.zero_le _, Nat.zero_le _⟩ d_OB_check_46 ?_
      refine lv_icmp_ge (tgt := 90) hx hb d_OB_check_49 (by decide) (fun c1 => ?_) (fun c1 => ?_)
      · have hkn : (r + u) = k := by
          rw [ls_cnt h_r h_u, nI_leI (by omega) (by omega)] at c1; omega
        subst hkn
        have heq := hin
        refine lv_iconst (v := 0) hx hb d_OB_check_90 (by decide) ?_
        exact ok_iretR F hr hlk (by rw [heq, Nat.sub_self]; rfl) d_OB_check_91
      · have hkn : k < (r + u) := by
          rw [ls_cnt h_r h_u, nI_leI (by omega) (by omega)] at c1; omega
        have heq := hin
        refine lv_aload_n hx hb d_OB_check_52 rfl (lv_at hl 1 rfl) ?_
        refine gf_OB_lines F hK hP d_OB_check_53 ?_
        refine lv_iload_n hx hb d_OB_check_56 rfl (lv_at hl 0 rfl) ?_
        refine x_Ls_at (r := r) (u := u) h_r h_u hr4 hu4 (k := k) rfl (by omega) (by omega) F (tt1 203 rfl rfl) ⟨Nat.le_of_ble_eq_true rfl, Nat.le_of_ble_eq_true rfl⟩ hK hP hl.1 (Nat.le_of_ble_eq_true rfl) ⟨Nat.zero_le _, Nat.zero_le _⟩ d_OB_check_57 ?_
        refine lv_aload_n hx hb d_OB_check_60 rfl (lv_at hl 1 rfl) ?_
        refine lv_iload_n hx hb d_OB_check_61 rfl (lv_at hl 2 rfl) ?_
        refine lv_aload_n hx hb d_OB_check_62 rfl (lv_at hl 1 rfl) ?_
        refine gf_OB_lines F hK hP d_OB_check_63 ?_
        refine lv_iload_n hx hb d_OB_check_66 rfl (lv_at hl 0 rfl) ?_
        refine x_Ls_at (r := r) (u := u) h_r h_u hr4 hu4 (k := k) rfl (by omega) (by omega) F (tt1 203 rfl rfl) ⟨Nat.le_of_ble_eq_true rfl, Nat.le_of_ble_eq_true rfl⟩ hK hP hl.1 (Nat.le_of_ble_eq_true rfl) ⟨Nat.zero_le _, Nat.zero_le _⟩ d_OB_check_67 ?_
        refine x_OB_packedSum (n := n) hn hn9 (i := (ls_i r k)) (ls_i_lt hr4 hu4 (by omega)) F (tt1 231 rfl rfl) ⟨Nat.le_of_ble_eq_true rfl, Nat.le_of_ble_eq_true rfl⟩ hK hP hl.1 (Nat.le_of_ble_eq_true rfl) ⟨Nat.zero_le _, Nat.zero_le _⟩ d_OB_check_70 ?_
        refine x_Li_holds (i := (ls_i r k)) (ls_i_lt hr4 hu4 (by omega)) F (tt1 236 rfl rfl) ⟨Nat.le_of_ble_eq_true rfl, Nat.le_of_ble_eq_true rfl⟩ hK hP hl.1 (Nat.le_of_ble_eq_true rfl) ⟨Nat.zero_le _, Nat.zero_le _⟩ d_OB_check_73 ?_
        refine lv_if_ne (tgt := 84) hx hb d_OB_check_76 (by decide) (fun c2 => ?_) (fun c2 => ?_)
        · refine lv_iinc (v := nI (k + 1)) (lv' := [(2, .int (nI (k + 1))), (0, .ref (ad 0)), (1, .int x)]) hx hb d_OB_check_84 hl (k := 0) rfl (nI_inc _) (by decide) rfl (fun ls hl => ?_)
          refine lv_goto (tgt := 41) hx hb d_OB_check_87 (by decide) ?_
          exact ih (k + 1) (by omega) (by omega) (by rw [hin, show r + u - k = (r + u - (k + 1)) + 1 by omega, ob_first, if_neg (by simp [c2])]) ls (lv_sub hl [0, 1, 2] rfl)
        · refine lv_bipush (v := 101) hx hb d_OB_check_79 (by decide) ?_
          refine lv_iload_n hx hb d_OB_check_81 rfl (lv_at hl 0 rfl) ?_
          refine lv_iadd hx hb d_OB_check_82 ?_
          exact ok_iretR F hr hlk (by rw [heq, show r + u - k = (r + u - (k + 1)) + 1 by omega, ob_first, if_pos (by simp [c2]), ob_o]) d_OB_check_83
  have lp : ∀ (f k : Nat), k ≤ n → n - k < f → ob_first (fun k => decide (¬ ob_u x (nI k) ≤ σ 1 0 k)) n 0 = ob_first (fun k => decide (¬ ob_u x (nI k) ≤ σ 1 0 k)) (n - k) k → ∀ ls : Array Slot, lv_has ls 3 [(2, .int (nI k)), (0, .ref (ad 0)), (1, .int x)] → W p l e { frames := 2, cells := 0, slots := 0, locals := 45 } s m ([.ref (ad 0), .int x] : List Value).toArray below meth c s.heap [] 0 0 (MQ below (ok_R (some (.int (ob_H σ r u n x)))) ([.ref (ad 0), .int x] : List Value).toArray s 0 0 (fun _ => False)) (F0 m 2 ls []) := by
    intro f
    induction f with
    | zero => intro k h1 h2; omega
    | succ f ih =>
      intro k h1 h2 hin ls hl
      refine lv_iload_n hx hb d_OB_check_2 rfl (lv_at hl 0 rfl) ?_
      refine lv_aload_n hx hb d_OB_check_3 rfl (lv_at hl 1 rfl) ?_
      refine gf_OB_columns F hK hP d_OB_check_4 ?_
      refine x_Co_count F (tt1 174 rfl rfl) ⟨Nat.le_of_ble_eq_true rfl, Nat.le_of_ble_eq_true rfl⟩ hK hP hl.1 (Nat.le_of_ble_eq_true rfl) ⟨Nat.zero_le _, Nat.zero_le _⟩ d_OB_check_7 ?_
      refine lv_icmp_ge (tgt := 39) hx hb d_OB_check_10 (by decide) (fun c3 => ?_) (fun c3 => ?_)
      · have hkn : n = k := by
          rw [hn, nI_leI (by omega) (by omega)] at c3; omega
        subst hkn
        have heq := hin
        refine lv_iconst (v := 0) hx hb d_OB_check_39 (by decide) ?_
        refine lv_istore_n (lv' := [(2, .int 0), (0, .ref (ad 0)), (1, .int x)]) hx hb d_OB_check_40 rfl hl (by decide) rfl (fun ls hl => ?_)
        exact lq (r + u + 1) 0 (by omega) (by omega) (by rw [ob_H, ob_H1, heq, Nat.sub_self]; rfl) ls (lv_sub hl [0, 1, 2] rfl)
      · have hkn : k < n := by
          rw [hn, nI_leI (by omega) (by omega)] at c3; omega
        have heq := hin
        refine lv_iload_n hx hb d_OB_check_13 rfl (lv_at hl 2 rfl) ?_
        refine lv_iload_n hx hb d_OB_check_14 rfl (lv_at hl 0 rfl) ?_
        refine x_OB_packedNumber F (tt1 228 rfl rfl) ⟨Nat.le_of_ble_eq_true rfl, Nat.le_of_ble_eq_true rfl⟩ hK hP hl.1 (Nat.le_of_ble_eq_true rfl) ⟨Nat.zero_le _, Nat.zero_le _⟩ d_OB_check_15 ?_
        refine lv_aload_n hx hb d_OB_check_18 rfl (lv_at hl 1 rfl) ?_
        refine gf_OB_columns F hK hP d_OB_check_19 ?_
        refine lv_iload_n hx hb d_OB_check_22 rfl (lv_at hl 0 rfl) ?_
        refine x_Co_top (j := k) rfl (by omega) F (tt1 191 rfl rfl) ⟨Nat.le_of_ble_eq_true rfl, Nat.le_of_ble_eq_true rfl⟩ hK hP hl.1 (Nat.le_of_ble_eq_true rfl) ⟨Nat.zero_le _, Nat.zero_le _⟩ d_OB_check_23 ?_
        refine lv_icmp_le (tgt := 33) hx hb d_OB_check_26 (by decide) (fun c4 => ?_) (fun c4 => ?_)
        · refine lv_iinc (v := nI (k + 1)) (lv' := [(2, .int (nI (k + 1))), (0, .ref (ad 0)), (1, .int x)]) hx hb d_OB_check_33 hl (k := 0) rfl (nI_inc _) (by decide) rfl (fun ls hl => ?_)
          refine lv_goto (tgt := 2) hx hb d_OB_check_36 (by decide) ?_
          exact ih (k + 1) (by omega) (by omega) (by rw [hin, show n - k = (n - (k + 1)) + 1 by omega, ob_first, if_neg (by simpa using c4)]) ls (lv_sub hl [0, 1, 2] rfl)
        · refine lv_iconst (v := 1) hx hb d_OB_check_29 (by decide) ?_
          refine lv_iload_n hx hb d_OB_check_30 rfl (lv_at hl 0 rfl) ?_
          refine lv_iadd hx hb d_OB_check_31 ?_
          exact ok_iretR F hr hlk (by rw [ob_H, ob_H1, heq, show n - k = (n - (k + 1)) + 1 by omega, ob_first, if_pos (by simpa using c4)]) d_OB_check_32
  refine lv_iconst (v := 0) hx hb d_OB_check_0 (by decide) ?_
  refine lv_istore_n (lv' := [(2, .int 0), (0, .ref (ad 0)), (1, .int x)]) hx hb d_OB_check_1 rfl hl (by decide) rfl (fun ls hl => ?_)
  exact lp (n + 1) 0 (by omega) (by omega) (rfl) ls (lv_sub hl [0, 1, 2] rfl)
theorem x_OB_check {σ : oS} {r : Nat} {u : Nat} (h_r : σ 9 0 0 = nI r) (h_u : σ 10 0 0 = nI u) (hr4 : r ≤ 4) (hu4 : u ≤ 4) {n : Nat} (hn : σ 2 0 0 = nI n) (hn9 : n ≤ 5) {x : Int32} (F : CallFix p m c cc nL s args (cw :: tt) own) (hG : Cond.methodLink own index y_OB_check ∈ tt) (hR : 2 + 1 ≤ R.frames ∧ 8 + (3 + 11) + 45 ≤ R.locals) (hK : va_K D vwCl (ot cI cL) s) (hP : va_P D vwCl (ow cI cL ad σ) H) (hsz : ls.size = nL) (hW : (rest.map fun v => v.category).sum ≤ 8) (hcs : cells ≤ R.cells ∧ slots ≤ R.slots) (hdg : decode cc pc = .ok (.invokevirtual index, 3)) (kk : W p l e R s m args below meth c H locs cells slots Q (F0 m (pc + 3) ls (.int (ob_H σ r u n x) :: rest))) : W p l e R s m args below meth c H locs cells slots Q (F0 m pc ls (.int x :: .ref (ad 0) :: rest)) :=
  ok_VR (As := [.int x]) F (c_OB_check σ h_r h_u hr4 hu4 hn hn9) 1 (tt_V hG i_OB_check l_OB_check in9_OB k_OB_check) rfl ⟨rfl, rfl⟩ (by decide +kernel) hR hK hP (0) 5 rfl rfl ow_0 rfl hsz rfl hW hcs hdg kk
end
