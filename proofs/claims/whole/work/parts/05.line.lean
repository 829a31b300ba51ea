-- what a line says
def li_h (σ : oS) (i : Nat) (x : Int32) : Int32 := if σ 4 i 0 = 0 then (if σ 5 i 0 < x then 0 else 1) else (if x < σ 5 i 0 then 0 else 1)
def li_w (σ : oS) (i : Nat) (x : Int32) : Int32 := if σ 4 i 0 = 0 then (if x < 0 then 0 else if 1000000 < x then 0 else 1) else (if 0 < x then 0 else if x < -1000000 then 0 else 1)
def li_k (σ : oS) (i k : Nat) : Int32 := if σ 4 i 0 = 0 then (if 0 < σ 3 i k * σ 1 0 k then 0 else σ 3 i k * σ 1 0 k) else (if σ 3 i k * σ 1 0 k < 0 then 0 else σ 3 i k * σ 1 0 k)
def li_s (σ : oS) (i : Nat) : Nat → Int32
  | 0 => 0
  | k + 1 => li_s σ i k + li_k σ i k
/-- the kindest sum of the last d of n columns -/
def li_q (σ : oS) (i n : Nat) : Nat → Int32
  | 0 => 0
  | d + 1 => li_q σ i n d + li_k σ i (n - (d + 1))
theorem li_h_b {σ : oS} {i : Nat} {x : Int32} : narrow .boolean (.int (li_h σ i x)) = .int (li_h σ i x) := by
  unfold li_h
  split <;> split <;> rfl
/-- helps of the columns from r on -/
def li_b (σ : oS) (i n r : Nat) : oS := uA σ 8 i (fun j => if r ≤ j ∧ j ≤ n then li_q σ i n (n - j) else σ 8 i j)
theorem li_k_b {σ : oS} {i n r k : Nat} : li_k (li_b σ i n r) i k = li_k σ i k := by
  unfold li_k li_b
  rw [uA_n (by omega), uA_n (by omega), uA_n (by omega)]
theorem li_b_0 {σ : oS} {i n : Nat} : u3 σ 8 i n 0 = li_b σ i n n := by
  unfold u3 li_b
  congr 1
  funext j
  unfold upd
  by_cases h : j = n
  · subst h
    rw [if_pos rfl, if_pos (by omega), Nat.sub_self]
    rfl
  · rw [if_neg h, if_neg (by omega)]
theorem li_b_step {σ : oS} {i n r : Nat} (h : r < n) : u3 (li_b σ i n (r + 1)) 8 i r (li_b σ i n (r + 1) 8 i (r + 1) + li_k (li_b σ i n (r + 1)) i r) = li_b σ i n r := by
  rw [li_k_b]
  unfold u3
  have e1 : ∀ f g : Nat → Int32, uA (uA σ 8 i f) 8 i g = uA σ 8 i g := by
    intro f g
    funext c9 i9
    unfold uA
    split <;> rfl
  conv => lhs; unfold li_b
  rw [e1]
  conv => rhs; unfold li_b
  congr 1
  funext j
  unfold upd
  rw [uA_s]
  by_cases hj : j = r
  · subst hj
    rw [if_pos rfl, if_pos (by omega), if_pos (by omega), show n - j = (n - (j + 1)) + 1 by omega]
    show _ = li_q σ i n (n - (j + 1)) + li_k σ i (n - (n - (j + 1) + 1))
    rw [show n - (n - (j + 1) + 1) = j by omega]
  · rw [if_neg hj]
    by_cases h2 : r + 1 ≤ j ∧ j ≤ n
    · rw [if_pos h2, if_pos (by omega)]
    · rw [if_neg h2, if_neg (by omega)]
theorem nI_pm {n : Nat} (h : 0 < n) : nI n - 1 = nI (n - 1) := by
  obtain ⟨k, rfl⟩ : ∃ k, n = k + 1 := ⟨n - 1, by omega⟩
  exact nI_pred k
section
variable {l : Launch} {D : va_G} {cI cL : ClassId} {ad : Nat → Nat}
variable {p : Program} {e : Env} {R : Room} {s : State} {m : MethodId} {args : Array Value} {below : List Frame} {meth : Method} {c : Code} {H : Heap} {locs : List Loc} {cells slots : Nat} {Q : State → Prop} {cc : ByteArray} {pc nL index : Nat} {ls : Array Slot} {rest : List Value} {A : Nat → Prop} {H0 : Heap} {cw : Cond} {own : String}
set_option maxHeartbeats 4000000 in
set_option maxRecDepth 100000 in
theorem c_Co_count (σ : oS) : ok_MR l y_Co_count (Cond.code y_Co_count b_Co_count 1 (some .int) :: tt) { frames := 0, cells := 0, slots := 0, locals := 0 } D vwCl (ot cI cL) (ow cI cL ad σ) [.ref (ad 1)] (some (.int (σ 2 0 0))) := by
  refine ok_startR (cc := b_Co_count) (own := RCo) (maxL := 1) (ret := (some .int)) (by decide +kernel) rfl rfl (Nat.le_of_ble_eq_true rfl) ?_
  intro p e s m below meth c F hr hlk hP hK ls hl
  have hl : lv_has ls 1 [(0, .ref (ad 1))] := hl
  have hx := F.1
  have hb := F.2.1
  refine lv_aload_n hx hb d_Co_count_0 rfl (lv_at hl 0 rfl) ?_
  refine gf_Co_count F hK hP d_Co_count_1 ?_
  exact ok_iretR F hr hlk (rfl) d_Co_count_4
theorem x_Co_count {σ : oS} (F : CallFix p m c cc nL s args (cw :: tt) own) (hG : Cond.methodLink own index y_Co_count ∈ tt) (hR : 0 + 1 ≤ R.frames ∧ 8 + (1 + 11) + 0 ≤ R.locals) (hK : va_K D vwCl (ot cI cL) s) (hP : va_P D vwCl (ow cI cL ad σ) H) (hsz : ls.size = nL) (hW : (rest.map fun v => v.category).sum ≤ 8) (hcs : cells ≤ R.cells ∧ slots ≤ R.slots) (hdg : decode cc pc = .ok (.invokevirtual index, 3)) (kk : W p l e R s m args below meth c H locs cells slots Q (F0 m (pc + 3) ls (.int (σ 2 0 0) :: rest))) : W p l e R s m args below meth c H locs cells slots Q (F0 m pc ls (.ref (ad 1) :: rest)) :=
  ok_VR (As := []) F (c_Co_count σ) 0 (tt_V hG i_Co_count l_Co_count in9_Co k_Co_count) rfl ⟨rfl, rfl⟩ (by decide +kernel) hR hK hP (1) 0 rfl rfl ow_1 rfl hsz rfl hW hcs hdg kk
set_option maxHeartbeats 4000000 in
set_option maxRecDepth 100000 in
theorem c_Co_worth (σ : oS) {x : Int32} {j : Nat} (hj : x = nI j) (hj9 : j < 5) : ok_MR l y_Co_worth (Cond.code y_Co_worth b_Co_worth 2 (some .int) :: tt) { frames := 0, cells := 0, slots := 0, locals := 0 } D vwCl (ot cI cL) (ow cI cL ad σ) [.ref (ad 1), .int x] (some (.int (σ 0 0 j))) := by
  refine ok_startR (cc := b_Co_worth) (own := RCo) (maxL := 2) (ret := (some .int)) (by decide +kernel) rfl rfl (Nat.le_of_ble_eq_true rfl) ?_
  intro p e s m below meth c F hr hlk hP hK ls hl
  have hl : lv_has ls 2 [(0, .ref (ad 1)), (1, .int x)] := hl
  have hx := F.1
  have hb := F.2.1
  refine lv_aload_n hx hb d_Co_worth_0 rfl (lv_at hl 0 rfl) ?_
  refine gf_Co_worths F hK hP d_Co_worth_1 ?_
  refine lv_iload_n hx hb d_Co_worth_4 rfl (lv_at hl 1 rfl) ?_
  refine ia_0 (j := j) F hK hP hj (by omega) d_Co_worth_5 ?_
  exact ok_iretR F hr hlk (rfl) d_Co_worth_6
theorem x_Co_worth {σ : oS} {x : Int32} {j : Nat} (hj : x = nI j) (hj9 : j < 5) (F : CallFix p m c cc nL s args (cw :: tt) own) (hG : Cond.methodLink own index y_Co_worth ∈ tt) (hR : 0 + 1 ≤ R.frames ∧ 8 + (2 + 11) + 0 ≤ R.locals) (hK : va_K D vwCl (ot cI cL) s) (hP : va_P D vwCl (ow cI cL ad σ) H) (hsz : ls.size = nL) (hW : (rest.map fun v => v.category).sum ≤ 8) (hcs : cells ≤ R.cells ∧ slots ≤ R.slots) (hdg : decode cc pc = .ok (.invokevirtual index, 3)) (kk : W p l e R s m args below meth c H locs cells slots Q (F0 m (pc + 3) ls (.int (σ 0 0 j) :: rest))) : W p l e R s m args below meth c H locs cells slots Q (F0 m pc ls (.int x :: .ref (ad 1) :: rest)) :=
  ok_VR (As := [.int x]) F (c_Co_worth σ hj hj9) 1 (tt_V hG i_Co_worth l_Co_worth in9_Co k_Co_worth) rfl ⟨rfl, rfl⟩ (by decide +kernel) hR hK hP (1) 0 rfl rfl ow_1 rfl hsz rfl hW hcs hdg kk
set_option maxHeartbeats 4000000 in
set_option maxRecDepth 100000 in
theorem c_Co_top (σ : oS) {x : Int32} {j : Nat} (hj : x = nI j) (hj9 : j < 5) : ok_MR l y_Co_top (Cond.code y_Co_top b_Co_top 2 (some .int) :: tt) { frames := 0, cells := 0, slots := 0, locals := 0 } D vwCl (ot cI cL) (ow cI cL ad σ) [.ref (ad 1), .int x] (some (.int (σ 1 0 j))) := by
  refine ok_startR (cc := b_Co_top) (own := RCo) (maxL := 2) (ret := (some .int)) (by decide +kernel) rfl rfl (Nat.le_of_ble_eq_true rfl) ?_
  intro p e s m below meth c F hr hlk hP hK ls hl
  have hl : lv_has ls 2 [(0, .ref (ad 1)), (1, .int x)] := hl
  have hx := F.1
  have hb := F.2.1
  refine lv_aload_n hx hb d_Co_top_0 rfl (lv_at hl 0 rfl) ?_
  refine gf_Co_tops F hK hP d_Co_top_1 ?_
  refine lv_iload_n hx hb d_Co_top_4 rfl (lv_at hl 1 rfl) ?_
  refine ia_1 (j := j) F hK hP hj (by omega) d_Co_top_5 ?_
  exact ok_iretR F hr hlk (rfl) d_Co_top_6
theorem x_Co_top {σ : oS} {x : Int32} {j : Nat} (hj : x = nI j) (hj9 : j < 5) (F : CallFix p m c cc nL s args (cw :: tt) own) (hG : Cond.methodLink own index y_Co_top ∈ tt) (hR : 0 + 1 ≤ R.frames ∧ 8 + (2 + 11) + 0 ≤ R.locals) (hK : va_K D vwCl (ot cI cL) s) (hP : va_P D vwCl (ow cI cL ad σ) H) (hsz : ls.size = nL) (hW : (rest.map fun v => v.category).sum ≤ 8) (hcs : cells ≤ R.cells ∧ slots ≤ R.slots) (hdg : decode cc pc = .ok (.invokevirtual index, 3)) (kk : W p l e R s m args below meth c H locs cells slots Q (F0 m (pc + 3) ls (.int (σ 1 0 j) :: rest))) : W p l e R s m args below meth c H locs cells slots Q (F0 m pc ls (.int x :: .ref (ad 1) :: rest)) :=
  ok_VR (As := [.int x]) F (c_Co_top σ hj hj9) 1 (tt_V hG i_Co_top l_Co_top in9_Co k_Co_top) rfl ⟨rfl, rfl⟩ (by decide +kernel) hR hK hP (1) 0 rfl rfl ow_1 rfl hsz rfl hW hcs hdg kk
set_option maxHeartbeats 4000000 in
set_option maxRecDepth 100000 in
theorem c_Li_rightSide (σ : oS) {i : Nat} (hi : i < 8) : ok_MR l y_Li_rightSide (Cond.code y_Li_rightSide b_Li_rightSide 1 (some .int) :: tt) { frames := 0, cells := 0, slots := 0, locals := 0 } D vwCl (ot cI cL) (ow cI cL ad σ) [.ref (ad (4 * i + 14))] (some (.int (σ 5 i 0))) := by
  refine ok_startR (cc := b_Li_rightSide) (own := RLi) (maxL := 1) (ret := (some .int)) (by decide +kernel) rfl rfl (Nat.le_of_ble_eq_true rfl) ?_
  intro p e s m below meth c F hr hlk hP hK ls hl
  have hl : lv_has ls 1 [(0, .ref (ad (4 * i + 14)))] := hl
  have hx := F.1
  have hb := F.2.1
  refine lv_aload_n hx hb d_Li_rightSide_0 rfl (lv_at hl 0 rfl) ?_
  refine gf_Li_right (i := i) F hK hP hi d_Li_rightSide_1 ?_
  exact ok_iretR F hr hlk (rfl) d_Li_rightSide_4
theorem x_Li_rightSide {σ : oS} {i : Nat} (hi : i < 8) (F : CallFix p m c cc nL s args (cw :: tt) own) (hG : Cond.methodLink own index y_Li_rightSide ∈ tt) (hR : 0 + 1 ≤ R.frames ∧ 8 + (1 + 11) + 0 ≤ R.locals) (hK : va_K D vwCl (ot cI cL) s) (hP : va_P D vwCl (ow cI cL ad σ) H) (hsz : ls.size = nL) (hW : (rest.map fun v => v.category).sum ≤ 8) (hcs : cells ≤ R.cells ∧ slots ≤ R.slots) (hdg : decode cc pc = .ok (.invokevirtual index, 3)) (kk : W p l e R s m args below meth c H locs cells slots Q (F0 m (pc + 3) ls (.int (σ 5 i 0) :: rest))) : W p l e R s m args below meth c H locs cells slots Q (F0 m pc ls (.ref (ad (4 * i + 14)) :: rest)) :=
  ok_VR (As := []) F (c_Li_rightSide σ hi) 0 (tt_V hG i_Li_rightSide l_Li_rightSide in9_Li k_Li_rightSide) rfl ⟨rfl, rfl⟩ (by decide +kernel) hR hK hP (4 * i + 14) 1 rfl rfl (ow_l0 hi) rfl hsz rfl hW hcs hdg kk
set_option maxHeartbeats 4000000 in
set_option maxRecDepth 100000 in
theorem c_Li_weight (σ : oS) {i : Nat} (hi : i < 8) : ok_MR l y_Li_weight (Cond.code y_Li_weight b_Li_weight 1 (some .int) :: tt) { frames := 0, cells := 0, slots := 0, locals := 0 } D vwCl (ot cI cL) (ow cI cL ad σ) [.ref (ad (4 * i + 14))] (some (.int (σ 6 i 0))) := by
  refine ok_startR (cc := b_Li_weight) (own := RLi) (maxL := 1) (ret := (some .int)) (by decide +kernel) rfl rfl (Nat.le_of_ble_eq_true rfl) ?_
  intro p e s m below meth c F hr hlk hP hK ls hl
  have hl : lv_has ls 1 [(0, .ref (ad (4 * i + 14)))] := hl
  have hx := F.1
  have hb := F.2.1
  refine lv_aload_n hx hb d_Li_weight_0 rfl (lv_at hl 0 rfl) ?_
  refine gf_Li_weight (i := i) F hK hP hi d_Li_weight_1 ?_
  exact ok_iretR F hr hlk (rfl) d_Li_weight_4
theorem x_Li_weight {σ : oS} {i : Nat} (hi : i < 8) (F : CallFix p m c cc nL s args (cw :: tt) own) (hG : Cond.methodLink own index y_Li_weight ∈ tt) (hR : 0 + 1 ≤ R.frames ∧ 8 + (1 + 11) + 0 ≤ R.locals) (hK : va_K D vwCl (ot cI cL) s) (hP : va_P D vwCl (ow cI cL ad σ) H) (hsz : ls.size = nL) (hW : (rest.map fun v => v.category).sum ≤ 8) (hcs : cells ≤ R.cells ∧ slots ≤ R.slots) (hdg : decode cc pc = .ok (.invokevirtual index, 3)) (kk : W p l e R s m args below meth c H locs cells slots Q (F0 m (pc + 3) ls (.int (σ 6 i 0) :: rest))) : W p l e R s m args below meth c H locs cells slots Q (F0 m pc ls (.ref (ad (4 * i + 14)) :: rest)) :=
  ok_VR (As := []) F (c_Li_weight σ hi) 0 (tt_V hG i_Li_weight l_Li_weight in9_Li k_Li_weight) rfl ⟨rfl, rfl⟩ (by decide +kernel) hR hK hP (4 * i + 14) 1 rfl rfl (ow_l0 hi) rfl hsz rfl hW hcs hdg kk
set_option maxHeartbeats 4000000 in
set_option maxRecDepth 100000 in
theorem c_Li_factorOf (σ : oS) {i : Nat} (hi : i < 8) {x : Int32} {j : Nat} (hj : x = nI j) (hj9 : j < 5) : ok_MR l y_Li_factorOf (Cond.code y_Li_factorOf b_Li_factorOf 2 (some .int) :: tt) { frames := 0, cells := 0, slots := 0, locals := 0 } D vwCl (ot cI cL) (ow cI cL ad σ) [.ref (ad (4 * i + 14)), .int x] (some (.int (σ 3 i j))) := by
  refine ok_startR (cc := b_Li_factorOf) (own := RLi) (maxL := 2) (ret := (some .int)) (by decide +kernel) rfl rfl (Nat.le_of_ble_eq_true rfl) ?_
  intro p e s m below meth c F hr hlk hP hK ls hl
  have hl : lv_has ls 2 [(0, .ref (ad (4 * i + 14))), (1, .int x)] := hl
  have hx := F.1
  have hb := F.2.1
  refine lv_aload_n hx hb d_Li_factorOf_0 rfl (lv_at hl 0 rfl) ?_
  refine gf_Li_factors (i := i) F hK hP hi d_Li_factorOf_1 ?_
  refine lv_iload_n hx hb d_Li_factorOf_4 rfl (lv_at hl 1 rfl) ?_
  refine ia_3 (i := i) (j := j) F hK hP hi hj (by omega) d_Li_factorOf_5 ?_
  exact ok_iretR F hr hlk (rfl) d_Li_factorOf_6
theorem x_Li_factorOf {σ : oS} {i : Nat} (hi : i < 8) {x : Int32} {j : Nat} (hj : x = nI j) (hj9 : j < 5) (F : CallFix p m c cc nL s args (cw :: tt) own) (hG : Cond.methodLink own index y_Li_factorOf ∈ tt) (hR : 0 + 1 ≤ R.frames ∧ 8 + (2 + 11) + 0 ≤ R.locals) (hK : va_K D vwCl (ot cI cL) s) (hP : va_P D vwCl (ow cI cL ad σ) H) (hsz : ls.size = nL) (hW : (rest.map fun v => v.category).sum ≤ 8) (hcs : cells ≤ R.cells ∧ slots ≤ R.slots) (hdg : decode cc pc = .ok (.invokevirtual index, 3)) (kk : W p l e R s m args below meth c H locs cells slots Q (F0 m (pc + 3) ls (.int (σ 3 i j) :: rest))) : W p l e R s m args below meth c H locs cells slots Q (F0 m pc ls (.int x :: .ref (ad (4 * i + 14)) :: rest)) :=
  ok_VR (As := [.int x]) F (c_Li_factorOf σ hi hj hj9) 1 (tt_V hG i_Li_factorOf l_Li_factorOf in9_Li k_Li_factorOf) rfl ⟨rfl, rfl⟩ (by decide +kernel) hR hK hP (4 * i + 14) 1 rfl rfl (ow_l0 hi) rfl hsz rfl hW hcs hdg kk
set_option maxHeartbeats 4000000 in
set_option maxRecDepth 100000 in
theorem c_Li_setKind (σ : oS) {i : Nat} (hi : i < 8) {x : Int32} : ok_MM l y_Li_setKind (Cond.code y_Li_setKind b_Li_setKind 2 none :: tt) { frames := 0, cells := 0, slots := 0, locals := 0 } D vwCl (ot cI cL) (ow cI cL ad σ) (ow cI cL ad (u3 σ 4 i 0 x)) [.ref (ad (4 * i + 14)), .int x] none := by
  refine ok_startM (cc := b_Li_setKind) (own := RLi) (maxL := 2) (ret := none) (by decide +kernel) rfl rfl (Nat.le_of_ble_eq_true rfl) ?_
  intro p e s m below meth c A F hr hlk hA hP hK hD hS ls hl
  have hl : lv_has ls 2 [(0, .ref (ad (4 * i + 14))), (1, .int x)] := hl
  have hx := F.1
  have hb := F.2.1
  refine lv_aload_n hx hb d_Li_setKind_0 rfl (lv_at hl 0 rfl) ?_
  refine lv_iload_n hx hb d_Li_setKind_1 rfl (lv_at hl 1 rfl) ?_
  refine pf_Li_kind (i := i) F hK hP hD hS hi d_Li_setKind_2 (fun H locs hP hD hS => ?_)
  exact ok_vretM F hr hlk hP hD hS d_Li_setKind_5
theorem x_Li_setKind {σ : oS} {i : Nat} (hi : i < 8) {x : Int32} (F : CallFix p m c cc nL s args (cw :: tt) own) (hG : Cond.methodLink own index y_Li_setKind ∈ tt) (hR : 0 + 1 ≤ R.frames ∧ 8 + (2 + 11) + 0 ≤ R.locals) (hK : va_K D vwCl (ot cI cL) s) (hP : va_P D vwCl (ow cI cL ad σ) H) (hD : va_D A (ow cI cL ad σ)) (hS : va_S A H0 H locs) (hA : ∀ q, H0.size ≤ q → A q) (hsz : ls.size = nL) (hW : (rest.map fun v => v.category).sum ≤ 8) (hcs : cells ≤ R.cells ∧ slots ≤ R.slots) (hdg : decode cc pc = .ok (.invokevirtual index, 3)) (kk : ∀ (H1 : Heap) (locs1 : List Loc), va_P D vwCl (ow cI cL ad (u3 σ 4 i 0 x)) H1 → va_D A (ow cI cL ad (u3 σ 4 i 0 x)) → va_S A H0 H1 locs1 → W p l e R s m args below meth c H1 locs1 cells slots Q (F0 m (pc + 3) ls (rest))) : W p l e R s m args below meth c H locs cells slots Q (F0 m pc ls (.int x :: .ref (ad (4 * i + 14)) :: rest)) :=
  ok_VM (As := [.int x]) F (c_Li_setKind σ hi) 1 (tt_V hG i_Li_setKind l_Li_setKind in9_Li k_Li_setKind) rfl ⟨rfl, rfl⟩ (by decide +kernel) hR hK hP hD hS hA (4 * i + 14) 1 rfl rfl (ow_l0 hi) rfl hsz rfl hW hcs hdg kk
set_option maxHeartbeats 4000000 in
set_option maxRecDepth 100000 in
theorem c_Li_setRight (σ : oS) {i : Nat} (hi : i < 8) {x : Int32} : ok_MM l y_Li_setRight (Cond.code y_Li_setRight b_Li_setRight 2 none :: tt) { frames := 0, cells := 0, slots := 0, locals := 0 } D vwCl (ot cI cL) (ow cI cL ad σ) (ow cI cL ad (u3 σ 5 i 0 x)) [.ref (ad (4 * i + 14)), .int x] none := by
  refine ok_startM (cc := b_Li_setRight) (own := RLi) (maxL := 2) (ret := none) (by decide +kernel) rfl rfl (Nat.le_of_ble_eq_true rfl) ?_
  intro p e s m below meth c A F hr hlk hA hP hK hD hS ls hl
  have hl : lv_has ls 2 [(0, .ref (ad (4 * i + 14))), (1, .int x)] := hl
  have hx := F.1
  have hb := F.2.1
  refine lv_aload_n hx hb d_Li_setRight_0 rfl (lv_at hl 0 rfl) ?_
  refine lv_iload_n hx hb d_Li_setRight_1 rfl (lv_at hl 1 rfl) ?_
  refine pf_Li_right (i := i) F hK hP hD hS hi d_Li_setRight_2 (fun H locs hP hD hS => ?_)
  exact ok_vretM F hr hlk hP hD hS d_Li_setRight_5
theorem x_Li_setRight {σ : oS} {i : Nat} (hi : i < 8) {x : Int32} (F : CallFix p m c cc nL s args (cw :: tt) own) (hG : Cond.methodLink own index y_Li_setRight ∈ tt) (hR : 0 + 1 ≤ R.frames ∧ 8 + (2 + 11) + 0 ≤ R.locals) (hK : va_K D vwCl (ot cI cL) s) (hP : va_P D vwCl (ow cI cL ad σ) H) (hD : va_D A (ow cI cL ad σ)) (hS : va_S A H0 H locs) (hA : ∀ q, H0.size ≤ q → A q) (hsz : ls.size = nL) (hW : (rest.map fun v => v.category).sum ≤ 8) (hcs : cells ≤ R.cells ∧ slots ≤ R.slots) (hdg : decode cc pc = .ok (.invokevirtual index, 3)) (kk : ∀ (H1 : Heap) (locs1 : List Loc), va_P D vwCl (ow cI cL ad (u3 σ 5 i 0 x)) H1 → va_D A (ow cI cL ad (u3 σ 5 i 0 x)) → va_S A H0 H1 locs1 → W p l e R s m args below meth c H1 locs1 cells slots Q (F0 m (pc + 3) ls (rest))) : W p l e R s m args below meth c H locs cells slots Q (F0 m pc ls (.int x :: .ref (ad (4 * i + 14)) :: rest)) :=
  ok_VM (As := [.int x]) F (c_Li_setRight σ hi) 1 (tt_V hG i_Li_setRight l_Li_setRight in9_Li k_Li_setRight) rfl ⟨rfl, rfl⟩ (by decide +kernel) hR hK hP hD hS hA (4 * i + 14) 1 rfl rfl (ow_l0 hi) rfl hsz rfl hW hcs hdg kk
set_option maxHeartbeats 4000000 in
set_option maxRecDepth 100000 in
theorem c_Li_setWeight (σ : oS) {i : Nat} (hi : i < 8) {x : Int32} : ok_MM l y_Li_setWeight (Cond.code y_Li_setWeight b_Li_setWeight 2 none :: tt) { frames := 0, cells := 0, slots := 0, locals := 0 } D vwCl (ot cI cL) (ow cI cL ad σ) (ow cI cL ad (u3 σ 6 i 0 x)) [.ref (ad (4 * i + 14)), .int x] none := by
  refine ok_startM (cc := b_Li_setWeight) (own := RLi) (maxL := 2) (ret := none) (by decide +kernel) rfl rfl (Nat.le_of_ble_eq_true rfl) ?_
  intro p e s m below meth c A F hr hlk hA hP hK hD hS ls hl
  have hl : lv_has ls 2 [(0, .ref (ad (4 * i + 14))), (1, .int x)] := hl
  have hx := F.1
  have hb := F.2.1
  refine lv_aload_n hx hb d_Li_setWeight_0 rfl (lv_at hl 0 rfl) ?_
  refine lv_iload_n hx hb d_Li_setWeight_1 rfl (lv_at hl 1 rfl) ?_
  refine pf_Li_weight (i := i) F hK hP hD hS hi d_Li_setWeight_2 (fun H locs hP hD hS => ?_)
  exact ok_vretM F hr hlk hP hD hS d_Li_setWeight_5
theorem x_Li_setWeight {σ : oS} {i : Nat} (hi : i < 8) {x : Int32} (F : CallFix p m c cc nL s args (cw :: tt) own) (hG : Cond.methodLink own index y_Li_setWeight ∈ tt) (hR : 0 + 1 ≤ R.frames ∧ 8 + (2 + 11) + 0 ≤ R.locals) (hK : va_K D vwCl (ot cI cL) s) (hP : va_P D vwCl (ow cI cL ad σ) H) (hD : va_D A (ow cI cL ad σ)) (hS : va_S A H0 H locs) (hA : ∀ q, H0.size ≤ q → A q) (hsz : ls.size = nL) (hW : (rest.map fun v => v.category).sum ≤ 8) (hcs : cells ≤ R.cells ∧ slots ≤ R.slots) (hdg : decode cc pc = .ok (.invokevirtual index, 3)) (kk : ∀ (H1 : Heap) (locs1 : List Loc), va_P D vwCl (ow cI cL ad (u3 σ 6 i 0 x)) H1 → va_D A (ow cI cL ad (u3 σ 6 i 0 x)) → va_S A H0 H1 locs1 → W p l e R s m args below meth c H1 locs1 cells slots Q (F0 m (pc + 3) ls (rest))) : W p l e R s m args below meth c H locs cells slots Q (F0 m pc ls (.int x :: .ref (ad (4 * i + 14)) :: rest)) :=
  ok_VM (As := [.int x]) F (c_Li_setWeight σ hi) 1 (tt_V hG i_Li_setWeight l_Li_setWeight in9_Li k_Li_setWeight) rfl ⟨rfl, rfl⟩ (by decide +kernel) hR hK hP hD hS hA (4 * i + 14) 1 rfl rfl (ow_l0 hi) rfl hsz rfl hW hcs hdg kk
set_option maxHeartbeats 4000000 in
set_option maxRecDepth 100000 in
theorem c_Li_setFactor (σ : oS) {i : Nat} (hi : i < 8) {x : Int32} {j : Nat} (hj : x = nI j) (hj9 : j < 5) {y : Int32} : ok_MM l y_Li_setFactor (Cond.code y_Li_setFactor b_Li_setFactor 3 none :: tt) { frames := 0, cells := 0, slots := 0, locals := 0 } D vwCl (ot cI cL) (ow cI cL ad σ) (ow cI cL ad (u3 σ 3 i j y)) [.ref (ad (4 * i + 14)), .int x, .int y] none := by
  refine ok_startM (cc := b_Li_setFactor) (own := RLi) (maxL := 3) (ret := none) (by decide +kernel) rfl rfl (Nat.le_of_ble_eq_true rfl) ?_
  intro p e s m below meth c A F hr hlk hA hP hK hD hS ls hl
  have hl : lv_has ls 3 [(0, .ref (ad (4 * i + 14))), (1, .int x), (2, .int y)] := hl
  have hx := F.1
  have hb := F.2.1
  refine lv_aload_n hx hb d_Li_setFactor_0 rfl (lv_at hl 0 rfl) ?_
  refine gf_Li_factors (i := i) F hK hP hi d_Li_setFactor_1 ?_
  refine lv_iload_n hx hb d_Li_setFactor_4 rfl (lv_at hl 1 rfl) ?_
  refine lv_iload_n hx hb d_Li_setFactor_5 rfl (lv_at hl 2 rfl) ?_
  refine sa_3 (i := i) (j := j) F hK hP hD hS hi hj (by omega) d_Li_setFactor_6 (fun H locs hP hD hS => ?_)
  exact ok_vretM F hr hlk hP hD hS d_Li_setFactor_7
theorem x_Li_setFactor {σ : oS} {i : Nat} (hi : i < 8) {x : Int32} {j : Nat} (hj : x = nI j) (hj9 : j < 5) {y : Int32} (F : CallFix p m c cc nL s args (cw :: tt) own) (hG : Cond.methodLink own index y_Li_setFactor ∈ tt) (hR : 0 + 1 ≤ R.frames ∧ 8 + (3 + 11) + 0 ≤ R.locals) (hK : va_K D vwCl (ot cI cL) s) (hP : va_P D vwCl (ow cI cL ad σ) H) (hD : va_D A (ow cI cL ad σ)) (hS : va_S A H0 H locs) (hA : ∀ q, H0.size ≤ q → A q) (hsz : ls.size = nL) (hW : (rest.map fun v => v.category).sum ≤ 8) (hcs : cells ≤ R.cells ∧ slots ≤ R.slots) (hdg : decode cc pc = .ok (.invokevirtual index, 3)) (kk : ∀ (H1 : Heap) (locs1 : List Loc), va_P D vwCl (ow cI cL ad (u3 σ 3 i j y)) H1 → va_D A (ow cI cL ad (u3 σ 3 i j y)) → va_S A H0 H1 locs1 → W p l e R s m args below meth c H1 locs1 cells slots Q (F0 m (pc + 3) ls (rest))) : W p l e R s m args below meth c H locs cells slots Q (F0 m pc ls (.int y :: .int x :: .ref (ad (4 * i + 14)) :: rest)) :=
  ok_VM (As := [.int x, .int y]) F (c_Li_setFactor σ hi hj hj9) 2 (tt_V hG i_Li_setFactor l_Li_setFactor in9_Li k_Li_setFactor) rfl ⟨rfl, rfl⟩ (by decide +kernel) hR hK hP hD hS hA (4 * i + 14) 1 rfl rfl (ow_l0 hi) rfl hsz rfl hW hcs hdg kk
set_option maxHeartbeats 4000000 in
set_option maxRecDepth 100000 in
theorem c_Li_allowsWeight (σ : oS) {i : Nat} (hi : i < 8) {x : Int32} : ok_MR l y_Li_allowsWeight (Cond.code y_Li_allowsWeight b_Li_allowsWeight 2 (some .boolean) :: tt) { frames := 0, cells := 0, slots := 0, locals := 0 } D vwCl (ot cI cL) (ow cI cL ad σ) [.ref (ad (4 * i + 14)), .int x] (some (.int (li_w σ i x))) := by
  refine ok_startR (cc := b_Li_allowsWeight) (own := RLi) (maxL := 2) (ret := (some .boolean)) (by decide +kernel) rfl rfl (Nat.le_of_ble_eq_true rfl) ?_
  intro p e s m below meth c F hr hlk hP hK ls hl
  have hl : lv_has ls 2 [(0, .ref (ad (4 * i + 14))), (1, .int x)] := hl
  have hx := F.1
  have hb := F.2.1
  refine lv_aload_n hx hb d_Li_allowsWeight_0 rfl (lv_at hl 0 rfl) ?_
  refine gf_Li_kind (i := i) F hK hP hi d_Li_allowsWeight_1 ?_
  refine lv_if_ne (tgt := 23) hx hb d_Li_allowsWeight_4 (by decide) (fun c1 => ?_) (fun c1 => ?_)
  · refine lv_iload_n hx hb d_Li_allowsWeight_23 rfl (lv_at hl 1 rfl) ?_
    refine lv_if_gt (tgt := 37) hx hb d_Li_allowsWeight_24 (by decide) (fun c2 => ?_) (fun c2 => ?_)
    · refine lv_iconst (v := 0) hx hb d_Li_allowsWeight_37 (by decide) ?_
      exact ok_zretR F hr hlk (rfl) (by simp [li_w, c1, c2]) d_Li_allowsWeight_38
    · refine lv_iload_n hx hb d_Li_allowsWeight_27 rfl (lv_at hl 1 rfl) ?_
      refine lv_ldc (v := -1000000) hx hb F.2.2.2.1 (F.2.2.2.2 (.constant RLi 32 (-1000000)) (List.mem_cons_of_mem _ (tt3 93 rfl rfl))) d_Li_allowsWeight_28 ?_
      refine lv_icmp_lt (tgt := 37) hx hb d_Li_allowsWeight_30 (by decide) (fun c3 => ?_) (fun c3 => ?_)
      · refine lv_iconst (v := 0) hx hb d_Li_allowsWeight_37 (by decide) ?_
        exact ok_zretR F hr hlk (rfl) (by simp [li_w, c1, c2, c3]) d_Li_allowsWeight_38
      · refine lv_iconst (v := 1) hx hb d_Li_allowsWeight_33 (by decide) ?_
        refine lv_goto (tgt := 38) hx hb d_Li_allowsWeight_34 (by decide) ?_
        exact ok_zretR F hr hlk (rfl) (by simp [li_w, c1, c2, c3]) d_Li_allowsWeight_38
  · refine lv_iload_n hx hb d_Li_allowsWeight_7 rfl (lv_at hl 1 rfl) ?_
    refine lv_if_lt (tgt := 21) hx hb d_Li_allowsWeight_8 (by decide) (fun c4 => ?_) (fun c4 => ?_)
    · refine lv_iconst (v := 0) hx hb d_Li_allowsWeight_21 (by decide) ?_
      exact ok_zretR F hr hlk (rfl) (by simp [li_w, c1, c4]) d_Li_allowsWeight_22
    · refine lv_iload_n hx hb d_Li_allowsWeight_11 rfl (lv_at hl 1 rfl) ?_
      refine lv_ldc (v := 1000000) hx hb F.2.2.2.1 (F.2.2.2.2 (.constant RLi 31 (1000000)) (List.mem_cons_of_mem _ (tt3 92 rfl rfl))) d_Li_allowsWeight_12 ?_
      refine lv_icmp_gt (tgt := 21) hx hb d_Li_allowsWeight_14 (by decide) (fun c5 => ?_) (fun c5 => ?_)
      · refine lv_iconst (v := 0) hx hb d_Li_allowsWeight_21 (by decide) ?_
        exact ok_zretR F hr hlk (rfl) (by simp [li_w, c1, c4, c5]) d_Li_allowsWeight_22
      · refine lv_iconst (v := 1) hx hb d_Li_allowsWeight_17 (by decide) ?_
        refine lv_goto (tgt := 22) hx hb d_Li_allowsWeight_18 (by decide) ?_
        exact ok_zretR F hr hlk (rfl) (by simp [li_w, c1, c4, c5]) d_Li_allowsWeight_22
theorem x_Li_allowsWeight {σ : oS} {i : Nat} (hi : i < 8) {x : Int32} (F : CallFix p m c cc nL s args (cw :: tt) own) (hG : Cond.methodLink own index y_Li_allowsWeight ∈ tt) (hR : 0 + 1 ≤ R.frames ∧ 8 + (2 + 11) + 0 ≤ R.locals) (hK : va_K D vwCl (ot cI cL) s) (hP : va_P D vwCl (ow cI cL ad σ) H) (hsz : ls.size = nL) (hW : (rest.map fun v => v.category).sum ≤ 8) (hcs : cells ≤ R.cells ∧ slots ≤ R.slots) (hdg : decode cc pc = .ok (.invokevirtual index, 3)) (kk : W p l e R s m args below meth c H locs cells slots Q (F0 m (pc + 3) ls (.int (li_w σ i x) :: rest))) : W p l e R s m args below meth c H locs cells slots Q (F0 m pc ls (.int x :: .ref (ad (4 * i + 14)) :: rest)) :=
  ok_VR (As := [.int x]) F (c_Li_allowsWeight σ hi) 1 (tt_V hG i_Li_allowsWeight l_Li_allowsWeight in9_Li k_Li_allowsWeight) rfl ⟨rfl, rfl⟩ (by decide +kernel) hR hK hP (4 * i + 14) 1 rfl rfl (ow_l0 hi) rfl hsz rfl hW hcs hdg kk
set_option maxHeartbeats 4000000 in
set_option maxRecDepth 100000 in
theorem c_Li_holds (σ : oS) {i : Nat} (hi : i < 8) {x : Int32} : ok_MR l y_Li_holds (Cond.code y_Li_holds b_Li_holds 2 (some .boolean) :: tt) { frames := 0, cells := 0, slots := 0, locals := 0 } D vwCl (ot cI cL) (ow cI cL ad σ) [.ref (ad (4 * i + 14)), .int x] (some (.int (li_h σ i x))) := by
  refine ok_startR (cc := b_Li_holds) (own := RLi) (maxL := 2) (ret := (some .boolean)) (by decide +kernel) rfl rfl (Nat.le_of_ble_eq_true rfl) ?_
  intro p e s m below meth c F hr hlk hP hK ls hl
  have hl : lv_has ls 2 [(0, .ref (ad (4 * i + 14))), (1, .int x)] := hl
  have hx := F.1
  have hb := F.2.1
  refine lv_aload_n hx hb d_Li_holds_0 rfl (lv_at hl 0 rfl) ?_
  refine gf_Li_kind (i := i) F hK hP hi d_Li_holds_1 ?_
  refine lv_if_ne (tgt := 23) hx hb d_Li_holds_4 (by decide) (fun c1 => ?_) (fun c1 => ?_)
  · refine lv_iload_n hx hb d_Li_holds_23 rfl (lv_at hl 1 rfl) ?_
    refine lv_aload_n hx hb d_Li_holds_24 rfl (lv_at hl 0 rfl) ?_
    refine gf_Li_right (i := i) F hK hP hi d_Li_holds_25 ?_
    refine lv_icmp_lt (tgt := 35) hx hb d_Li_holds_28 (by decide) (fun c2 => ?_) (fun c2 => ?_)
    · refine lv_iconst (v := 0) hx hb d_Li_holds_35 (by decide) ?_
      exact ok_zretR F hr hlk (rfl) (by simp [li_h, c1, c2]) d_Li_holds_36
    · refine lv_iconst (v := 1) hx hb d_Li_holds_31 (by decide) ?_
      refine lv_goto (tgt := 36) hx hb d_Li_holds_32 (by decide) ?_
      exact ok_zretR F hr hlk (rfl) (by simp [li_h, c1, c2]) d_Li_holds_36
  · refine lv_iload_n hx hb d_Li_holds_7 rfl (lv_at hl 1 rfl) ?_
    refine lv_aload_n hx hb d_Li_holds_8 rfl (lv_at hl 0 rfl) ?_
    refine gf_Li_right (i := i) F hK hP hi d_Li_holds_9 ?_
    refine lv_icmp_gt (tgt := 19) hx hb d_Li_holds_12 (by decide) (fun c3 => ?_) (fun c3 => ?_)
    · refine lv_iconst (v := 0) hx hb d_Li_holds_19 (by decide) ?_
      refine lv_goto (tgt := 36) hx hb d_Li_holds_20 (by decide) ?_
      exact ok_zretR F hr hlk (rfl) (by simp [li_h, c1, c3]) d_Li_holds_36
    · refine lv_iconst (v := 1) hx hb d_Li_holds_15 (by decide) ?_
      refine lv_goto (tgt := 36) hx hb d_Li_holds_16 (by decide) ?_
      exact ok_zretR F hr hlk (rfl) (by simp [li_h, c1, c3]) d_Li_holds_36
theorem x_Li_holds {σ : oS} {i : Nat} (hi : i < 8) {x : Int32} (F : CallFix p m c cc nL s args (cw :: tt) own) (hG : Cond.methodLink own index y_Li_holds ∈ tt) (hR : 0 + 1 ≤ R.frames ∧ 8 + (2 + 11) + 0 ≤ R.locals) (hK : va_K D vwCl (ot cI cL) s) (hP : va_P D vwCl (ow cI cL ad σ) H) (hsz : ls.size = nL) (hW : (rest.map fun v => v.category).sum ≤ 8) (hcs : cells ≤ R.cells ∧ slots ≤ R.slots) (hdg : decode cc pc = .ok (.invokevirtual index, 3)) (kk : W p l e R s m args below meth c H locs cells slots Q (F0 m (pc + 3) ls (.int (li_h σ i x) :: rest))) : W p l e R s m args below meth c H locs cells slots Q (F0 m pc ls (.int x :: .ref (ad (4 * i + 14)) :: rest)) :=
  ok_VR (As := [.int x]) F (c_Li_holds σ hi) 1 (tt_V hG i_Li_holds l_Li_holds in9_Li k_Li_holds) rfl ⟨rfl, rfl⟩ (by decide +kernel) hR hK hP (4 * i + 14) 1 rfl rfl (ow_l0 hi) rfl hsz rfl hW hcs hdg kk
set_option maxHeartbeats 4000000 in
set_option maxRecDepth 100000 in
theorem c_Li_kindest (σ : oS) {i : Nat} (hi : i < 8) {x : Int32} {j : Nat} (hj : x = nI j) (hj9 : j < 5) : ok_MR l y_Li_kindest (Cond.code y_Li_kindest b_Li_kindest 4 (some .int) :: tt) { frames := 1, cells := 0, slots := 0, locals := 21 } D vwCl (ot cI cL) (ow cI cL ad σ) [.ref (ad (4 * i + 14)), .ref (ad 1), .int x] (some (.int (li_k σ i j))) := by
  refine ok_startR (cc := b_Li_kindest) (own := RLi) (maxL := 4) (ret := (some .int)) (by decide +kernel) rfl rfl (Nat.le_of_ble_eq_true rfl) ?_
  intro p e s m below meth c F hr hlk hP hK ls hl
  have hl : lv_has ls 4 [(0, .ref (ad (4 * i + 14))), (1, .ref (ad 1)), (2, .int x)] := hl
  have hx := F.1
  have hb := F.2.1
  refine lv_aload_n hx hb d_Li_kindest_0 rfl (lv_at hl 0 rfl) ?_
  refine gf_Li_factors (i := i) F hK hP hi d_Li_kindest_1 ?_
  refine lv_iload_n hx hb d_Li_kindest_4 rfl (lv_at hl 2 rfl) ?_
  refine ia_3 (i := i) (j := j) F hK hP hi hj (by omega) d_Li_kindest_5 ?_
  refine lv_aload_n hx hb d_Li_kindest_6 rfl (lv_at hl 1 rfl) ?_
  refine lv_iload_n hx hb d_Li_kindest_7 rfl (lv_at hl 2 rfl) ?_
  refine x_Co_top (j := j) hj (by omega) F (tt1 213 rfl rfl) ⟨Nat.le_of_ble_eq_true rfl, Nat.le_of_ble_eq_true rfl⟩ hK hP hl.1 (Nat.le_of_ble_eq_true rfl) ⟨Nat.zero_le _, Nat.zero_le _⟩ d_Li_kindest_8 ?_
  refine lv_imul hx hb d_Li_kindest_11 ?_
  refine lv_istore_n (lv' := [(3, .int ((σ 3 i j) * (σ 1 0 j))), (0, .ref (ad (4 * i + 14))), (1, .ref (ad 1)), (2, .int x)]) hx hb d_Li_kindest_12 rfl hl (by decide) rfl (fun ls hl => ?_)
  refine lv_aload_n hx hb d_Li_kindest_13 rfl (lv_at hl 1 rfl) ?_
  refine gf_Li_kind (i := i) F hK hP hi d_Li_kindest_14 ?_
  refine lv_if_ne (tgt := 28) hx hb d_Li_kindest_17 (by decide) (fun c1 => ?_) (fun c1 => ?_)
  · refine lv_iload_n hx hb d_Li_kindest_28 rfl (lv_at hl 0 rfl) ?_
    refine lv_iconst (v := 0) hx hb d_Li_kindest_29 (by decide) ?_
    refine ok_mmax F (List.mem_cons_of_mem _ (tt1 217 rfl rfl)) hl.1 (Nat.le_of_ble_eq_true rfl) (Nat.le_of_ble_eq_true rfl) (Nat.zero_le _) (Nat.zero_le _) d_Li_kindest_30 ?_
    exact ok_iretR F hr hlk (by first | rw [li_k, if_pos c1] | rw [li_k, if_neg c1]) d_Li_kindest_33
  · refine lv_iload_n hx hb d_Li_kindest_20 rfl (lv_at hl 0 rfl) ?_
    refine lv_iconst (v := 0) hx hb d_Li_kindest_21 (by decide) ?_
    refine ok_mmin F (List.mem_cons_of_mem _ (tt1 214 rfl rfl)) hl.1 (Nat.le_of_ble_eq_true rfl) (Nat.le_of_ble_eq_true rfl) (Nat.zero_le _) (Nat.zero_le _) d_Li_kindest_22 ?_
    refine lv_goto (tgt := 33) hx hb d_Li_kindest_25 (by decide) ?_
    exact ok_iretR F hr hlk (by first | rw [li_k, if_pos c1] | rw [li_k, if_neg c1]) d_Li_kindest_33
theorem x_Li_kindest {σ : oS} {i : Nat} (hi : i < 8) {x : Int32} {j : Nat} (hj : x = nI j) (hj9 : j < 5) (F : CallFix p m c cc nL s args (cw :: tt) own) (hG : Cond.methodLink own index y_Li_kindest ∈ tt) (hR : 1 + 1 ≤ R.frames ∧ 8 + (4 + 11) + 21 ≤ R.locals) (hK : va_K D vwCl (ot cI cL) s) (hP : va_P D vwCl (ow cI cL ad σ) H) (hsz : ls.size = nL) (hW : (rest.map fun v => v.category).sum ≤ 8) (hcs : cells ≤ R.cells ∧ slots ≤ R.slots) (hdg : decode cc pc = .ok (.invokevirtual index, 3)) (kk : W p l e R s m args below meth c H locs cells slots Q (F0 m (pc + 3) ls (.int (li_k σ i j) :: rest))) : W p l e R s m args below meth c H locs cells slots Q (F0 m pc ls (.int x :: .ref (ad 1) :: .ref (ad (4 * i + 14)) :: rest)) :=
  ok_VR (As := [.ref (ad 1), .int x]) F (c_Li_kindest σ hi hj hj9) 2 (tt_V hG i_Li_kindest l_Li_kindest in9_Li k_Li_kindest) rfl ⟨rfl, rfl⟩ (by decide +kernel) hR hK hP (4 * i + 14) 1 rfl rfl (ow_l0 hi) rfl hsz rfl hW hcs hdg kk
set_option maxHeartbeats 4000000 in
set_option maxRecDepth 100000 in
theorem c_Li_canHold (σ : oS) {i : Nat} (hi : i < 8) {n : Nat} (hn : σ 2 0 0 = nI n) (hn9 : n ≤ 5) : ok_MR l y_Li_canHold (Cond.code y_Li_canHold b_Li_canHold 4 (some .boolean) :: tt) { frames := 2, cells := 0, slots := 0, locals := 44 } D vwCl (ot cI cL) (ow cI cL ad σ) [.ref (ad (4 * i + 14)), .ref (ad 1)] (some (.int (li_h σ i (li_s σ i n)))) := by
  refine ok_startR (cc := b_Li_canHold) (own := RLi) (maxL := 4) (ret := (some .boolean)) (by decide +kernel) rfl rfl (Nat.le_of_ble_eq_true rfl) ?_
  intro p e s m below meth c F hr hlk hP hK ls hl
  have hl : lv_has ls 4 [(0, .ref (ad (4 * i + 14))), (1, .ref (ad 1))] := hl
  have hx := F.1
  have hb := F.2.1
  have lp : ∀ (f k : Nat), k ≤ n → n - k < f → ∀ ls : Array Slot, lv_has ls 4 [(3, .int (nI k)), (2, .int (li_s σ i k)), (0, .ref (ad (4 * i + 14))), (1, .ref (ad 1))] → W p l e { frames := 2, cells := 0, slots := 0, locals := 44 } s m ([.ref (ad (4 * i + 14)), .ref (ad 1)] : List Value).toArray below meth c s.heap [] 0 0 (MQ below (ok_R (some (.int (li_h σ i (li_s σ i n))))) ([.ref (ad (4 * i + 14)), .ref (ad 1)] : List Value).toArray s 0 0 (fun _ => False)) (F0 m 4 ls []) := by
    intro f
    induction f with
    | zero => intro k h1 h2; omega
    | succ f ih =>
      intro k h1 h2 ls hl
      refine lv_iload_n hx hb d_Li_canHold_4 rfl (lv_at hl 0 rfl) ?_
      refine lv_aload_n hx hb d_Li_canHold_5 rfl (lv_at hl 3 rfl) ?_
      refine x_Co_count F (tt1 208 rfl rfl) ⟨Nat.le_of_ble_eq_true rfl, Nat.le_of_ble_eq_true rfl⟩ hK hP hl.1 (Nat.le_of_ble_eq_true rfl) ⟨Nat.zero_le _, Nat.zero_le _⟩ d_Li_canHold_6 ?_
      refine lv_icmp_ge (tgt := 27) hx hb d_Li_canHold_9 (by decide) (fun c1 => ?_) (fun c1 => ?_)
      · have hkn : k = n := by
          rw [hn, nI_leI (by omega) (by omega)] at c1; omega
        subst hkn
        refine lv_aload_n hx hb d_Li_canHold_27 rfl (lv_at hl 2 rfl) ?_
        refine lv_iload_n hx hb d_Li_canHold_28 rfl (lv_at hl 1 rfl) ?_
        refine x_Li_holds (i := i) hi F (tt1 220 rfl rfl) ⟨Nat.le_of_ble_eq_true rfl, Nat.le_of_ble_eq_true rfl⟩ hK hP hl.1 (Nat.le_of_ble_eq_true rfl) ⟨Nat.zero_le _, Nat.zero_le _⟩ d_Li_canHold_29 ?_
        exact ok_zretR F hr hlk (li_h_b) (rfl) d_Li_canHold_32
      · have hkn : k < n := by
          rw [hn, nI_leI (by omega) (by omega)] at c1; omega
        refine lv_iload_n hx hb d_Li_canHold_12 rfl (lv_at hl 1 rfl) ?_
        refine lv_aload_n hx hb d_Li_canHold_13 rfl (lv_at hl 2 rfl) ?_
        refine lv_aload_n hx hb d_Li_canHold_14 rfl (lv_at hl 3 rfl) ?_
        refine lv_iload_n hx hb d_Li_canHold_15 rfl (lv_at hl 0 rfl) ?_
        refine x_Li_kindest (i := i) hi (j := k) rfl (by omega) F (tt1 209 rfl rfl) ⟨Nat.le_of_ble_eq_true rfl, Nat.le_of_ble_eq_true rfl⟩ hK hP hl.1 (Nat.le_of_ble_eq_true rfl) ⟨Nat.zero_le _, Nat.zero_le _⟩ d_Li_canHold_16 ?_
        refine lv_iadd hx hb d_Li_canHold_19 ?_
        refine lv_istore_n (lv' := [(2, .int ((li_s σ i k) + (li_k σ i k))), (3, .int (nI k)), (0, .ref (ad (4 * i + 14))), (1, .ref (ad 1))]) hx hb d_Li_canHold_20 rfl hl (by decide) rfl (fun ls hl => ?_)
        refine lv_iinc (v := nI (k + 1)) (lv' := [(3, .int (nI (k + 1))), (2, .int ((li_s σ i k) + (li_k σ i k))), (0, .ref (ad (4 * i + 14))), (1, .ref (ad 1))]) hx hb d_Li_canHold_21 hl (k := 1) rfl (nI_inc _) (by decide) rfl (fun ls hl => ?_)
        refine lv_goto (tgt := 4) hx hb d_Li_canHold_24 (by decide) ?_
        exact ih (k + 1) (by omega) (by omega) ls (lv_sub hl [0, 1, 2, 3] rfl)
  refine lv_iconst (v := 0) hx hb d_Li_canHold_0 (by decide) ?_
  refine lv_istore_n (lv' := [(2, .int 0), (0, .ref (ad (4 * i + 14))), (1, .ref (ad 1))]) hx hb d_Li_canHold_1 rfl hl (by decide) rfl (fun ls hl => ?_)
  refine lv_iconst (v := 0) hx hb d_Li_canHold_2 (by decide) ?_
  refine lv_istore_n (lv' := [(3, .int 0), (2, .int 0), (0, .ref (ad (4 * i + 14))), (1, .ref (ad 1))]) hx hb d_Li_canHold_3 rfl hl (by decide) rfl (fun ls hl => ?_)
  exact lp (n + 1) 0 (by omega) (by omega) ls (lv_sub hl [0, 1, 2, 3] rfl)
theorem x_Li_canHold {σ : oS} {i : Nat} (hi : i < 8) {n : Nat} (hn : σ 2 0 0 = nI n) (hn9 : n ≤ 5) (F : CallFix p m c cc nL s args (cw :: tt) own) (hG : Cond.methodLink own index y_Li_canHold ∈ tt) (hR : 2 + 1 ≤ R.frames ∧ 8 + (4 + 11) + 44 ≤ R.locals) (hK : va_K D vwCl (ot cI cL) s) (hP : va_P D vwCl (ow cI cL ad σ) H) (hsz : ls.size = nL) (hW : (rest.map fun v => v.category).sum ≤ 8) (hcs : cells ≤ R.cells ∧ slots ≤ R.slots) (hdg : decode cc pc = .ok (.invokevirtual index, 3)) (kk : W p l e R s m args below meth c H locs cells slots Q (F0 m (pc + 3) ls (.int (li_h σ i (li_s σ i n)) :: rest))) : W p l e R s m args below meth c H locs cells slots Q (F0 m pc ls (.ref (ad 1) :: .ref (ad (4 * i + 14)) :: rest)) :=
  ok_VR (As := [.ref (ad 1)]) F (c_Li_canHold σ hi hn hn9) 1 (tt_V hG i_Li_canHold l_Li_canHold in9_Li k_Li_canHold) rfl ⟨rfl, rfl⟩ (by decide +kernel) hR hK hP (4 * i + 14) 1 rfl rfl (ow_l0 hi) rfl hsz rfl hW hcs hdg kk
set_option maxHeartbeats 4000000 in
set_option maxRecDepth 100000 in
theorem c_Li_beginSums (σ : oS) {i : Nat} (hi : i < 8) {n : Nat} (hn : σ 2 0 0 = nI n) (hn9 : n ≤ 5) : ok_MM l y_Li_beginSums (Cond.code y_Li_beginSums b_Li_beginSums 4 none :: tt) { frames := 2, cells := 0, slots := 0, locals := 44 } D vwCl (ot cI cL) (ow cI cL ad σ) (ow cI cL ad (u3 (li_b σ i n 0) 7 i 0 0)) [.ref (ad (4 * i + 14)), .ref (ad 1)] none := by
  refine ok_startM (cc := b_Li_beginSums) (own := RLi) (maxL := 4) (ret := none) (by decide +kernel) rfl rfl (Nat.le_of_ble_eq_true rfl) ?_
  intro p e s m below meth c A F hr hlk hA hP hK hD hS ls hl
  have hl : lv_has ls 4 [(0, .ref (ad (4 * i + 14))), (1, .ref (ad 1))] := hl
  have hx := F.1
  have hb := F.2.1
  have lp : ∀ r : Nat, r ≤ n → ∀ (x : Int32), x = nI r - 1 → ∀ (H : Heap) (locs : List Loc), va_P D vwCl (ow cI cL ad (li_b σ i n r)) H → va_D A (ow cI cL ad (li_b σ i n r)) → va_S A s.heap H locs → ∀ ls : Array Slot, lv_has ls 4 [(3, .int x), (2, .int (σ 2 0 0)), (0, .ref (ad (4 * i + 14))), (1, .ref (ad 1))] → W p l e { frames := 2, cells := 0, slots := 0, locals := 44 } s m ([.ref (ad (4 * i + 14)), .ref (ad 1)] : List Value).toArray below meth c H locs 0 0 (MQ below (ok_qA D vwCl A (ow cI cL ad (u3 (li_b σ i n 0) 7 i 0 0)) none) ([.ref (ad (4 * i + 14)), .ref (ad 1)] : List Value).toArray s 0 0 A) (F0 m 16 ls []) := by
    intro r
    induction r with
    | zero =>
      intro h1 x hx9 H locs hP hD hS ls hl
      refine lv_iload_n hx hb d_Li_beginSums_16 rfl (lv_at hl 0 rfl) ?_
      refine lv_if_lt (tgt := 47) hx hb d_Li_beginSums_17 (by decide) (fun c1 => ?_) (fun c1 => ?_)
      · refine lv_aload_n hx hb d_Li_beginSums_47 rfl (lv_at hl 2 rfl) ?_
        refine gf_Li_sums (i := i) F hK hP (by omega) d_Li_beginSums_48 ?_
        refine lv_iconst (v := 0) hx hb d_Li_beginSums_51 (by decide) ?_
        refine lv_iconst (v := 0) hx hb d_Li_beginSums_52 (by decide) ?_
        refine sa_7 (i := i) (j := 0) F hK hP hD hS (by omega) (by decide) (by omega) d_Li_beginSums_53 (fun H locs hP hD hS => ?_)
        exact ok_vretM F hr hlk hP hD hS d_Li_beginSums_54
      · exact absurd (by rw [hx9]; decide) c1
    | succ r ih =>
      intro h1 x hx9 H locs hP hD hS ls hl
      rw [nI_pred] at hx9
      refine lv_iload_n hx hb d_Li_beginSums_16 rfl (lv_at hl 0 rfl) ?_
      refine lv_if_lt (tgt := 47) hx hb d_Li_beginSums_17 (by decide) (fun c2 => ?_) (fun c2 => ?_)
      · exact absurd c2 (by rw [hx9]; exact nI_pos (by omega))
      · refine lv_aload_n hx hb d_Li_beginSums_20 rfl (lv_at hl 2 rfl) ?_
        refine gf_Li_helps (i := i) F hK hP (by omega) d_Li_beginSums_21 ?_
        refine lv_iload_n hx hb d_Li_beginSums_24 rfl (lv_at hl 0 rfl) ?_
        refine lv_aload_n hx hb d_Li_beginSums_25 rfl (lv_at hl 2 rfl) ?_
        refine gf_Li_helps (i := i) F hK hP (by omega) d_Li_beginSums_26 ?_
        refine lv_iload_n hx hb d_Li_beginSums_29 rfl (lv_at hl 0 rfl) ?_
        refine lv_iconst (v := 1) hx hb d_Li_beginSums_30 (by decide) ?_
        refine lv_iadd hx hb d_Li_beginSums_31 ?_
        refine ia_8 (i := i) (j := (r + 1)) F hK hP (by omega) (by rw [hx9]; exact nI_1 _) (by omega) d_Li_beginSums_32 ?_
        refine lv_aload_n hx hb d_Li_beginSums_33 rfl (lv_at hl 2 rfl) ?_
        refine lv_aload_n hx hb d_Li_beginSums_34 rfl (lv_at hl 3 rfl) ?_
        refine lv_iload_n hx hb d_Li_beginSums_35 rfl (lv_at hl 0 rfl) ?_
        refine x_Li_kindest (i := i) (by omega) (j := r) hx9 (by omega) F (tt1 209 rfl rfl) ⟨Nat.le_of_ble_eq_true rfl, Nat.le_of_ble_eq_true rfl⟩ hK hP hl.1 (Nat.le_of_ble_eq_true rfl) ⟨Nat.zero_le _, Nat.zero_le _⟩ d_Li_beginSums_36 ?_
        refine lv_iadd hx hb d_Li_beginSums_39 ?_
        refine sa_8 (i := i) (j := r) F hK hP hD hS (by omega) hx9 (by omega) d_Li_beginSums_40 (fun H locs hP hD hS => ?_)
        refine lv_iinc (v := x + (-1)) (lv' := [(3, .int (x + (-1))), (2, .int (σ 2 0 0)), (0, .ref (ad (4 * i + 14))), (1, .ref (ad 1))]) hx hb d_Li_beginSums_41 hl (k := 0) rfl (by rw [litm1]) (by decide) rfl (fun ls hl => ?_)
        refine lv_goto (tgt := 16) hx hb d_Li_beginSums_44 (by decide) ?_
        rw [li_b_step (by omega)] at hP hD
        exact ih (by omega) _ (by rw [hx9, Int32.sub_eq_add_neg]) H locs hP hD hS ls (lv_sub hl [0, 1, 2, 3] rfl)
  refine lv_aload_n hx hb d_Li_beginSums_0 rfl (lv_at hl 1 rfl) ?_
  refine x_Co_count F (tt1 208 rfl rfl) ⟨Nat.le_of_ble_eq_true rfl, Nat.le_of_ble_eq_true rfl⟩ hK hP hl.1 (Nat.le_of_ble_eq_true rfl) ⟨Nat.zero_le _, Nat.zero_le _⟩ d_Li_beginSums_1 ?_
  refine lv_istore_n (lv' := [(2, .int (σ 2 0 0)), (0, .ref (ad (4 * i + 14))), (1, .ref (ad 1))]) hx hb d_Li_beginSums_4 rfl hl (by decide) rfl (fun ls hl => ?_)
  refine lv_aload_n hx hb d_Li_beginSums_5 rfl (lv_at hl 1 rfl) ?_
  refine gf_Li_helps (i := i) F hK hP hi d_Li_beginSums_6 ?_
  refine lv_iload_n hx hb d_Li_beginSums_9 rfl (lv_at hl 0 rfl) ?_
  refine lv_iconst (v := 0) hx hb d_Li_beginSums_10 (by decide) ?_
  refine sa_8 (i := i) (j := n) F hK hP hD hS hi hn (by omega) d_Li_beginSums_11 (fun H locs hP hD hS => ?_)
  refine lv_iload_n hx hb d_Li_beginSums_12 rfl (lv_at hl 0 rfl) ?_
  refine lv_iconst (v := 1) hx hb d_Li_beginSums_13 (by decide) ?_
  refine lv_isub hx hb d_Li_beginSums_14 ?_
  refine lv_istore_n (lv' := [(3, .int ((σ 2 0 0) - 1)), (2, .int (σ 2 0 0)), (0, .ref (ad (4 * i + 14))), (1, .ref (ad 1))]) hx hb d_Li_beginSums_15 rfl hl (by decide) rfl (fun ls hl => ?_)
  rw [li_b_0] at hP hD
  exact lp n (by omega) _ (by rw [hn]) H locs hP hD hS ls (lv_sub hl [0, 1, 2, 3] rfl)
theorem x_Li_beginSums {σ : oS} {i : Nat} (hi : i < 8) {n : Nat} (hn : σ 2 0 0 = nI n) (hn9 : n ≤ 5) (F : CallFix p m c cc nL s args (cw :: tt) own) (hG : Cond.methodLink own index y_Li_beginSums ∈ tt) (hR : 2 + 1 ≤ R.frames ∧ 8 + (4 + 11) + 44 ≤ R.locals) (hK : va_K D vwCl (ot cI cL) s) (hP : va_P D vwCl (ow cI cL ad σ) H) (hD : va_D A (ow cI cL ad σ)) (hS : va_S A H0 H locs) (hA : ∀ q, H0.size ≤ q → A q) (hsz : ls.size = nL) (hW : (rest.map fun v => v.category).sum ≤ 8) (hcs : cells ≤ R.cells ∧ slots ≤ R.slots) (hdg : decode cc pc = .ok (.invokevirtual index, 3)) (kk : ∀ (H1 : Heap) (locs1 : List Loc), va_P D vwCl (ow cI cL ad (u3 (li_b σ i n 0) 7 i 0 0)) H1 → va_D A (ow cI cL ad (u3 (li_b σ i n 0) 7 i 0 0)) → va_S A H0 H1 locs1 → W p l e R s m args below meth c H1 locs1 cells slots Q (F0 m (pc + 3) ls (rest))) : W p l e R s m args below meth c H locs cells slots Q (F0 m pc ls (.ref (ad 1) :: .ref (ad (4 * i + 14)) :: rest)) :=
  ok_VM (As := [.ref (ad 1)]) F (c_Li_beginSums σ hi hn hn9) 1 (tt_V hG i_Li_beginSums l_Li_beginSums in9_Li k_Li_beginSums) rfl ⟨rfl, rfl⟩ (by decide +kernel) hR hK hP hD hS hA (4 * i + 14) 1 rfl rfl (ow_l0 hi) rfl hsz rfl hW hcs hdg kk
set_option maxHeartbeats 4000000 in
set_option maxRecDepth 100000 in
theorem c_Li_stillHolds (σ : oS) {i : Nat} (hi : i < 8) {x : Int32} {j : Nat} (hj : x = nI j) (hj9 : j < 5) {y : Int32} : ok_MM l y_Li_stillHolds (Cond.code y_Li_stillHolds b_Li_stillHolds 4 (some .boolean) :: tt) { frames := 1, cells := 0, slots := 0, locals := 21 } D vwCl (ot cI cL) (ow cI cL ad σ) (ow cI cL ad (u3 σ 7 i (j + 1) (σ 7 i j + σ 3 i j * y))) [.ref (ad (4 * i + 14)), .int x, .int y] (some (.int (li_h σ i (σ 7 i j + σ 3 i j * y + σ 8 i (j + 1))))) := by
  refine ok_startM (cc := b_Li_stillHolds) (own := RLi) (maxL := 4) (ret := (some .boolean)) (by decide +kernel) rfl rfl (Nat.le_of_ble_eq_true rfl) ?_
  intro p e s m below meth c A F hr hlk hA hP hK hD hS ls hl
  have hl : lv_has ls 4 [(0, .ref (ad (4 * i + 14))), (1, .int x), (2, .int y)] := hl
  have hx := F.1
  have hb := F.2.1
  refine lv_aload_n hx hb d_Li_stillHolds_0 rfl (lv_at hl 0 rfl) ?_
  refine gf_Li_sums (i := i) F hK hP hi d_Li_stillHolds_1 ?_
  refine lv_iload_n hx hb d_Li_stillHolds_4 rfl (lv_at hl 1 rfl) ?_
  refine ia_7 (i := i) (j := j) F hK hP hi hj (by omega) d_Li_stillHolds_5 ?_
  refine lv_aload_n hx hb d_Li_stillHolds_6 rfl (lv_at hl 0 rfl) ?_
  refine gf_Li_factors (i := i) F hK hP hi d_Li_stillHolds_7 ?_
  refine lv_iload_n hx hb d_Li_stillHolds_10 rfl (lv_at hl 1 rfl) ?_
  refine ia_3 (i := i) (j := j) F hK hP hi hj (by omega) d_Li_stillHolds_11 ?_
  refine lv_iload_n hx hb d_Li_stillHolds_12 rfl (lv_at hl 2 rfl) ?_
  refine lv_imul hx hb d_Li_stillHolds_13 ?_
  refine lv_iadd hx hb d_Li_stillHolds_14 ?_
  refine lv_istore_n (lv' := [(3, .int ((σ 7 i j) + ((σ 3 i j) * y))), (0, .ref (ad (4 * i + 14))), (1, .int x), (2, .int y)]) hx hb d_Li_stillHolds_15 rfl hl (by decide) rfl (fun ls hl => ?_)
  refine lv_aload_n hx hb d_Li_stillHolds_16 rfl (lv_at hl 1 rfl) ?_
  refine gf_Li_sums (i := i) F hK hP hi d_Li_stillHolds_17 ?_
  refine lv_iload_n hx hb d_Li_stillHolds_20 rfl (lv_at hl 2 rfl) ?_
  refine lv_iconst (v := 1) hx hb d_Li_stillHolds_21 (by decide) ?_
  refine lv_iadd hx hb d_Li_stillHolds_22 ?_
  refine lv_iload_n hx hb d_Li_stillHolds_23 rfl (lv_at hl 0 rfl) ?_
  refine sa_7 (i := i) (j := (j + 1)) F hK hP hD hS hi (by rw [hj]; exact nI_1 _) (by omega) d_Li_stillHolds_24 (fun H locs hP hD hS => ?_)
  refine lv_aload_n hx hb d_Li_stillHolds_25 rfl (lv_at hl 1 rfl) ?_
  refine lv_iload_n hx hb d_Li_stillHolds_26 rfl (lv_at hl 0 rfl) ?_
  refine lv_aload_n hx hb d_Li_stillHolds_27 rfl (lv_at hl 1 rfl) ?_
  refine gf_Li_helps (i := i) F hK hP hi d_Li_stillHolds_28 ?_
  refine lv_iload_n hx hb d_Li_stillHolds_31 rfl (lv_at hl 2 rfl) ?_
  refine lv_iconst (v := 1) hx hb d_Li_stillHolds_32 (by decide) ?_
  refine lv_iadd hx hb d_Li_stillHolds_33 ?_
  refine ia_8 (i := i) (j := (j + 1)) F hK hP hi (by rw [hj]; exact nI_1 _) (by omega) d_Li_stillHolds_34 ?_
  refine lv_iadd hx hb d_Li_stillHolds_35 ?_
  refine x_Li_holds (i := i) hi F (tt1 220 rfl rfl) ⟨Nat.le_of_ble_eq_true rfl, Nat.le_of_ble_eq_true rfl⟩ hK hP hl.1 (Nat.le_of_ble_eq_true rfl) ⟨Nat.zero_le _, Nat.zero_le _⟩ d_Li_stillHolds_36 ?_
  exact ok_zretM F hr hlk hP hD hS (li_h_b) (by simp [li_h, u3_at]) d_Li_stillHolds_39
theorem x_Li_stillHolds {σ : oS} {i : Nat} (hi : i < 8) {x : Int32} {j : Nat} (hj : x = nI j) (hj9 : j < 5) {y : Int32} (F : CallFix p m c cc nL s args (cw :: tt) own) (hG : Cond.methodLink own index y_Li_stillHolds ∈ tt) (hR : 1 + 1 ≤ R.frames ∧ 8 + (4 + 11) + 21 ≤ R.locals) (hK : va_K D vwCl (ot cI cL) s) (hP : va_P D vwCl (ow cI cL ad σ) H) (hD : va_D A (ow cI cL ad σ)) (hS : va_S A H0 H locs) (hA : ∀ q, H0.size ≤ q → A q) (hsz : ls.size = nL) (hW : (rest.map fun v => v.category).sum ≤ 8) (hcs : cells ≤ R.cells ∧ slots ≤ R.slots) (hdg : decode cc pc = .ok (.invokevirtual index, 3)) (kk : ∀ (H1 : Heap) (locs1 : List Loc), va_P D vwCl (ow cI cL ad (u3 σ 7 i (j + 1) (σ 7 i j + σ 3 i j * y))) H1 → va_D A (ow cI cL ad (u3 σ 7 i (j + 1) (σ 7 i j + σ 3 i j * y))) → va_S A H0 H1 locs1 → W p l e R s m args below meth c H1 locs1 cells slots Q (F0 m (pc + 3) ls (.int (li_h σ i (σ 7 i j + σ 3 i j * y + σ 8 i (j + 1))) :: rest))) : W p l e R s m args below meth c H locs cells slots Q (F0 m pc ls (.int y :: .int x :: .ref (ad (4 * i + 14)) :: rest)) :=
  ok_VM (As := [.int x, .int y]) F (c_Li_stillHolds σ hi hj hj9) 2 (tt_V hG i_Li_stillHolds l_Li_stillHolds in9_Li k_Li_stillHolds) rfl ⟨rfl, rfl⟩ (by decide +kernel) hR hK hP hD hS hA (4 * i + 14) 1 rfl rfl (ow_l0 hi) rfl hsz rfl hW hcs hdg kk
end
