-- the search
theorem nb_01 {x : Int32} (h : x = 0 ∨ x = 1) : narrow .boolean (.int x) = .int x := by
  rcases h with rfl | rfl <;> rfl
theorem nb_f {x : Int32} (h : x = 0 ∨ x = 1) : fits .boolean (.int x) = true := by
  rcases h with rfl | rfl <;> rfl
def se_w (σ : oS) (x : Int32) : Int32 := if σ 17 0 0 = 0 then 1 else if x ≤ σ 18 0 0 then 0 else 1
theorem se_w_b {σ : oS} {x : Int32} : narrow .boolean (.int (se_w σ x)) = .int (se_w σ x) := by
  unfold se_w
  split
  · rfl
  · split <;> rfl
def se_k (σ : oS) (n : Nat) (x : Int32) : oS := uA (u3 (u3 σ 17 0 0 1) 18 0 0 x) 12 0 (va_cpy (σ 11 0) (σ 12 0) 0 0 n)
/-- to the next number: r columns have one -/
def se_n (σ : oS) : Nat → oS
  | 0 => σ
  | r + 1 => if σ 11 0 r = 0 then se_n (u3 σ 15 0 0 (nI r - 1)) r else u3 σ 11 0 r (σ 11 0 r - 1)
/-- the most that the last d of n columns can add -/
def se_m (σ : oS) (k : Nat) : Int32 := if σ 0 0 k * σ 1 0 k < 0 then 0 else σ 0 0 k * σ 1 0 k
def se_q (σ : oS) (n : Nat) : Nat → Int32
  | 0 => 0
  | d + 1 => se_q σ n d + se_m σ (n - (d + 1))
def se_h (σ : oS) (n r : Nat) : oS := uA σ 14 0 (fun j => if r ≤ j ∧ j ≤ n then se_q σ n (n - j) else σ 14 0 j)
theorem uA_uA {σ : oS} {c i : Nat} {f g : Nat → Int32} : uA (uA σ c i f) c i g = uA σ c i g := by
  funext c9 i9
  unfold uA
  split <;> rfl
theorem se_h_c {σ : oS} {n r c : Nat} (h : c ≠ 14) : se_h σ n r c = σ c := by
  funext i9
  unfold se_h
  rw [uA_n (fun q => h q.1)]
theorem se_m_h {σ : oS} {n r k : Nat} : se_m (se_h σ n r) k = se_m σ k := by
  unfold se_m
  rw [se_h_c (by decide), se_h_c (by decide)]
theorem se_h_0 {σ : oS} {n : Nat} : u3 σ 14 0 n 0 = se_h σ n n := by
  unfold u3 se_h
  congr 1
  funext j
  unfold upd
  by_cases h : j = n
  · subst h
    rw [if_pos rfl, if_pos (by omega), Nat.sub_self]
    rfl
  · rw [if_neg h, if_neg (by omega)]
theorem se_h_step {σ : oS} {n r : Nat} (h : r < n) : u3 (se_h σ n (r + 1)) 14 0 r (se_h σ n (r + 1) 14 0 (r + 1) + se_m (se_h σ n (r + 1)) r) = se_h σ n r := by
  rw [se_m_h]
  unfold u3
  conv => lhs; unfold se_h
  rw [uA_uA]
  conv => rhs; unfold se_h
  congr 1
  funext j
  unfold upd
  rw [uA_s]
  by_cases hj : j = r
  · subst hj
    rw [if_pos rfl, if_pos (by omega), if_pos (by omega), show n - j = (n - (j + 1)) + 1 by omega]
    show _ = se_q σ n (n - (j + 1)) + se_m σ (n - (n - (j + 1) + 1))
    rw [show n - (n - (j + 1) + 1) = j by omega]
  · rw [if_neg hj]
    by_cases h2 : r + 1 ≤ j ∧ j ≤ n
    · rw [if_pos h2, if_pos (by omega)]
    · rw [if_neg h2, if_neg (by omega)]
/-- begin -/
def se_b (σ : oS) (n r u : Nat) : oS := u3 (u3 (u3 (u3 (u3 (ls_b (se_h σ n 0) r n (r + u)) 13 0 0 0) 16 0 0 0) 17 0 0 0) 15 0 0 0) 11 0 0 (σ 1 0 0)
def se_0 (σ : oS) (r u : Nat) : oS := u3 (u3 (u3 σ 17 0 0 (if ls_0 σ r (r + u) = true then 1 else 0)) 18 0 0 0) 15 0 0 (-1)
/-- one step: the column k gets its number -/
def se_1 (σ : oS) (k : Nat) : oS := u3 (u3 σ 16 0 0 (σ 16 0 0 + 1)) 13 0 (k + 1) (σ 13 0 k + σ 0 0 k * σ 11 0 k)
def se_s (σ : oS) (n r u k : Nat) : oS :=
  if se_w σ (σ 13 0 k + σ 0 0 k * σ 11 0 k + σ 14 0 (k + 1)) = 0 then se_n (se_1 σ k) (k + 1)
  else if (ls_x r k (σ 11 0 k) (r + u) 0 (se_1 σ k)).2 = 0 then se_n (ls_x r k (σ 11 0 k) (r + u) 0 (se_1 σ k)).1 (k + 1)
  else if k + 1 < n then u3 (u3 (ls_x r k (σ 11 0 k) (r + u) 0 (se_1 σ k)).1 15 0 0 (nI (k + 1))) 11 0 (k + 1) (σ 1 0 (k + 1))
  else se_n (se_k (ls_x r k (σ 11 0 k) (r + u) 0 (se_1 σ k)).1 n (σ 13 0 k + σ 0 0 k * σ 11 0 k)) (k + 1)
section
variable {l : Launch} {D : va_G} {cI cL : ClassId} {ad : Nat → Nat}
variable {p : Program} {e : Env} {R : Room} {s : State} {m : MethodId} {args : Array Value} {below : List Frame} {meth : Method} {c : Code} {H : Heap} {locs : List Loc} {cells slots : Nat} {Q : State → Prop} {cc : ByteArray} {pc nL index : Nat} {ls : Array Slot} {rest : List Value} {A : Nat → Prop} {H0 : Heap} {cw : Cond} {own : String}
set_option maxHeartbeats 4000000 in
set_option maxRecDepth 100000 in
theorem c_Co_add (σ : oS) {n : Nat} (hn : σ 2 0 0 = nI n) (hn5 : n < 5) {x : Int32} {y : Int32} : ok_MM l y_Co_add (Cond.code y_Co_add b_Co_add 3 (some .int) :: tt) { frames := 0, cells := 0, slots := 0, locals := 0 } D vwCl (ot cI cL) (ow cI cL ad σ) (ow cI cL ad (u3 (u3 (u3 σ 0 0 n x) 1 0 n y) 2 0 0 (nI (n + 1)))) [.ref (ad 1), .int x, .int y] (some (.int (nI n))) := by
  refine ok_startM (cc := b_Co_add) (own := RCo) (maxL := 3) (ret := (some .int)) (by decide +kernel) rfl rfl (Nat.le_of_ble_eq_true rfl) ?_
  intro p e s m below meth c A F hr hlk hA hP hK hD hS ls hl
  have hl : lv_has ls 3 [(0, .ref (ad 1)), (1, .int x), (2, .int y)] := hl
  have hx := F.1
  have hb := F.2.1
  refine lv_aload_n hx hb d_Co_add_0 rfl (lv_at hl 0 rfl) ?_
  refine gf_Co_worths F hK hP d_Co_add_1 ?_
  refine lv_aload_n hx hb d_Co_add_4 rfl (lv_at hl 0 rfl) ?_
  refine gf_Co_count F hK hP d_Co_add_5 ?_
  refine lv_iload_n hx hb d_Co_add_8 rfl (lv_at hl 1 rfl) ?_
  refine sa_0 (j := n) F hK hP hD hS hn (by omega) d_Co_add_9 (fun H locs hP hD hS => ?_)
  refine lv_aload_n hx hb d_Co_add_10 rfl (lv_at hl 0 rfl) ?_
  refine gf_Co_tops F hK hP d_Co_add_11 ?_
  refine lv_aload_n hx hb d_Co_add_14 rfl (lv_at hl 0 rfl) ?_
  refine gf_Co_count F hK hP d_Co_add_15 ?_
  refine lv_iload_n hx hb d_Co_add_18 rfl (lv_at hl 2 rfl) ?_
  refine sa_1 (j := n) F hK hP hD hS (by simp [u3_at, uA, hn]) (by omega) d_Co_add_19 (fun H locs hP hD hS => ?_)
  refine lv_aload_n hx hb d_Co_add_20 rfl (lv_at hl 0 rfl) ?_
  refine lv_dup hx hb d_Co_add_21 rfl ?_
  refine gf_Co_count F hK hP d_Co_add_22 ?_
  refine lv_iconst (v := 1) hx hb d_Co_add_25 (by decide) ?_
  refine lv_iadd hx hb d_Co_add_26 ?_
  refine pf_Co_count F hK hP hD hS d_Co_add_27 (fun H locs hP hD hS => ?_)
  have ew : u3 (u3 (u3 σ 0 0 n x) 1 0 n y) 2 0 0 (((u3 (u3 σ 0 0 n x) 1 0 n y) 2 0 0) + 1) = u3 (u3 (u3 σ 0 0 n x) 1 0 n y) 2 0 0 (nI (n + 1)) := by congr 1; simp [u3_at, hn, nI_1]
  rw [ew] at hP hD
  clear ew
  refine lv_aload_n hx hb d_Co_add_30 rfl (lv_at hl 0 rfl) ?_
  refine gf_Co_count F hK hP d_Co_add_31 ?_
  refine lv_iconst (v := 1) hx hb d_Co_add_34 (by decide) ?_
  refine lv_isub hx hb d_Co_add_35 ?_
  exact ok_iretM F hr hlk hP hD hS (by rw [u3_s]; exact nI_pred n) d_Co_add_36
theorem x_Co_add {σ : oS} {n : Nat} (hn : σ 2 0 0 = nI n) (hn5 : n < 5) {x : Int32} {y : Int32} (F : CallFix p m c cc nL s args (cw :: tt) own) (hG : Cond.methodLink own index y_Co_add ∈ tt) (hR : 0 + 1 ≤ R.frames ∧ 8 + (3 + 11) + 0 ≤ R.locals) (hK : va_K D vwCl (ot cI cL) s) (hP : va_P D vwCl (ow cI cL ad σ) H) (hD : va_D A (ow cI cL ad σ)) (hS : va_S A H0 H locs) (hA : ∀ q, H0.size ≤ q → A q) (hsz : ls.size = nL) (hW : (rest.map fun v => v.category).sum ≤ 8) (hcs : cells ≤ R.cells ∧ slots ≤ R.slots) (hdg : decode cc pc = .ok (.invokevirtual index, 3)) (kk : ∀ (H1 : Heap) (locs1 : List Loc), va_P D vwCl (ow cI cL ad (u3 (u3 (u3 σ 0 0 n x) 1 0 n y) 2 0 0 (nI (n + 1)))) H1 → va_D A (ow cI cL ad (u3 (u3 (u3 σ 0 0 n x) 1 0 n y) 2 0 0 (nI (n + 1)))) → va_S A H0 H1 locs1 → W p l e R s m args below meth c H1 locs1 cells slots Q (F0 m (pc + 3) ls (.int (nI n) :: rest))) : W p l e R s m args below meth c H locs cells slots Q (F0 m pc ls (.int y :: .int x :: .ref (ad 1) :: rest)) :=
  ok_VM (As := [.int x, .int y]) F (c_Co_add σ hn hn5) 2 (tt_V hG i_Co_add l_Co_add in9_Co k_Co_add) rfl ⟨rfl, rfl⟩ (by decide +kernel) hR hK hP hD hS hA (1) 0 rfl rfl ow_1 rfl hsz rfl hW hcs hdg kk
set_option maxHeartbeats 4000000 in
set_option maxRecDepth 100000 in
theorem c_Se_stepsGiven (σ : oS) : ok_MR l y_Se_stepsGiven (Cond.code y_Se_stepsGiven b_Se_stepsGiven 1 (some .int) :: tt) { frames := 0, cells := 0, slots := 0, locals := 0 } D vwCl (ot cI cL) (ow cI cL ad σ) [.ref (ad 7)] (some (.int (σ 16 0 0))) := by
  refine ok_startR (cc := b_Se_stepsGiven) (own := RSe) (maxL := 1) (ret := (some .int)) (by decide +kernel) rfl rfl (Nat.le_of_ble_eq_true rfl) ?_
  intro p e s m below meth c F hr hlk hP hK ls hl
  have hl : lv_has ls 1 [(0, .ref (ad 7))] := hl
  have hx := F.1
  have hb := F.2.1
  refine lv_aload_n hx hb d_Se_stepsGiven_0 rfl (lv_at hl 0 rfl) ?_
  refine gf_Se_steps F hK hP d_Se_stepsGiven_1 ?_
  exact ok_iretR F hr hlk (rfl) d_Se_stepsGiven_4
theorem x_Se_stepsGiven {σ : oS} (F : CallFix p m c cc nL s args (cw :: tt) own) (hG : Cond.methodLink own index y_Se_stepsGiven ∈ tt) (hR : 0 + 1 ≤ R.frames ∧ 8 + (1 + 11) + 0 ≤ R.locals) (hK : va_K D vwCl (ot cI cL) s) (hP : va_P D vwCl (ow cI cL ad σ) H) (hsz : ls.size = nL) (hW : (rest.map fun v => v.category).sum ≤ 8) (hcs : cells ≤ R.cells ∧ slots ≤ R.slots) (hdg : decode cc pc = .ok (.invokevirtual index, 3)) (kk : W p l e R s m args below meth c H locs cells slots Q (F0 m (pc + 3) ls (.int (σ 16 0 0) :: rest))) : W p l e R s m args below meth c H locs cells slots Q (F0 m pc ls (.ref (ad 7) :: rest)) :=
  ok_VR (As := []) F (c_Se_stepsGiven σ) 0 (tt_V hG i_Se_stepsGiven l_Se_stepsGiven in9_Se k_Se_stepsGiven) rfl ⟨rfl, rfl⟩ (by decide +kernel) hR hK hP (7) 3 rfl rfl ow_7 rfl hsz rfl hW hcs hdg kk
set_option maxHeartbeats 4000000 in
set_option maxRecDepth 100000 in
theorem c_Se_hasFound (σ : oS) (hfo : σ 17 0 0 = 0 ∨ σ 17 0 0 = 1) : ok_MR l y_Se_hasFound (Cond.code y_Se_hasFound b_Se_hasFound 1 (some .boolean) :: tt) { frames := 0, cells := 0, slots := 0, locals := 0 } D vwCl (ot cI cL) (ow cI cL ad σ) [.ref (ad 7)] (some (.int (σ 17 0 0))) := by
  refine ok_startR (cc := b_Se_hasFound) (own := RSe) (maxL := 1) (ret := (some .boolean)) (by decide +kernel) rfl rfl (Nat.le_of_ble_eq_true rfl) ?_
  intro p e s m below meth c F hr hlk hP hK ls hl
  have hl : lv_has ls 1 [(0, .ref (ad 7))] := hl
  have hx := F.1
  have hb := F.2.1
  refine lv_aload_n hx hb d_Se_hasFound_0 rfl (lv_at hl 0 rfl) ?_
  refine gf_Se_found F hK hP d_Se_hasFound_1 ?_
  exact ok_zretR F hr hlk (nb_01 hfo) (rfl) d_Se_hasFound_4
theorem x_Se_hasFound {σ : oS} (hfo : σ 17 0 0 = 0 ∨ σ 17 0 0 = 1) (F : CallFix p m c cc nL s args (cw :: tt) own) (hG : Cond.methodLink own index y_Se_hasFound ∈ tt) (hR : 0 + 1 ≤ R.frames ∧ 8 + (1 + 11) + 0 ≤ R.locals) (hK : va_K D vwCl (ot cI cL) s) (hP : va_P D vwCl (ow cI cL ad σ) H) (hsz : ls.size = nL) (hW : (rest.map fun v => v.category).sum ≤ 8) (hcs : cells ≤ R.cells ∧ slots ≤ R.slots) (hdg : decode cc pc = .ok (.invokevirtual index, 3)) (kk : W p l e R s m args below meth c H locs cells slots Q (F0 m (pc + 3) ls (.int (σ 17 0 0) :: rest))) : W p l e R s m args below meth c H locs cells slots Q (F0 m pc ls (.ref (ad 7) :: rest)) :=
  ok_VR (As := []) F (c_Se_hasFound σ hfo) 0 (tt_V hG i_Se_hasFound l_Se_hasFound in9_Se k_Se_hasFound) rfl ⟨rfl, rfl⟩ (by decide +kernel) hR hK hP (7) 3 rfl rfl ow_7 rfl hsz rfl hW hcs hdg kk
set_option maxHeartbeats 4000000 in
set_option maxRecDepth 100000 in
theorem c_Se_bestWorth (σ : oS) : ok_MR l y_Se_bestWorth (Cond.code y_Se_bestWorth b_Se_bestWorth 1 (some .int) :: tt) { frames := 0, cells := 0, slots := 0, locals := 0 } D vwCl (ot cI cL) (ow cI cL ad σ) [.ref (ad 7)] (some (.int (σ 18 0 0))) := by
  refine ok_startR (cc := b_Se_bestWorth) (own := RSe) (maxL := 1) (ret := (some .int)) (by decide +kernel) rfl rfl (Nat.le_of_ble_eq_true rfl) ?_
  intro p e s m below meth c F hr hlk hP hK ls hl
  have hl : lv_has ls 1 [(0, .ref (ad 7))] := hl
  have hx := F.1
  have hb := F.2.1
  refine lv_aload_n hx hb d_Se_bestWorth_0 rfl (lv_at hl 0 rfl) ?_
  refine gf_Se_bestWorth F hK hP d_Se_bestWorth_1 ?_
  exact ok_iretR F hr hlk (rfl) d_Se_bestWorth_4
theorem x_Se_bestWorth {σ : oS} (F : CallFix p m c cc nL s args (cw :: tt) own) (hG : Cond.methodLink own index y_Se_bestWorth ∈ tt) (hR : 0 + 1 ≤ R.frames ∧ 8 + (1 + 11) + 0 ≤ R.locals) (hK : va_K D vwCl (ot cI cL) s) (hP : va_P D vwCl (ow cI cL ad σ) H) (hsz : ls.size = nL) (hW : (rest.map fun v => v.category).sum ≤ 8) (hcs : cells ≤ R.cells ∧ slots ≤ R.slots) (hdg : decode cc pc = .ok (.invokevirtual index, 3)) (kk : W p l e R s m args below meth c H locs cells slots Q (F0 m (pc + 3) ls (.int (σ 18 0 0) :: rest))) : W p l e R s m args below meth c H locs cells slots Q (F0 m pc ls (.ref (ad 7) :: rest)) :=
  ok_VR (As := []) F (c_Se_bestWorth σ) 0 (tt_V hG i_Se_bestWorth l_Se_bestWorth in9_Se k_Se_bestWorth) rfl ⟨rfl, rfl⟩ (by decide +kernel) hR hK hP (7) 3 rfl rfl ow_7 rfl hsz rfl hW hcs hdg kk
set_option maxHeartbeats 4000000 in
set_option maxRecDepth 100000 in
theorem c_Se_bestNumber (σ : oS) {x : Int32} {j : Nat} (hj : x = nI j) (hj9 : j < 5) : ok_MR l y_Se_bestNumber (Cond.code y_Se_bestNumber b_Se_bestNumber 2 (some .int) :: tt) { frames := 0, cells := 0, slots := 0, locals := 0 } D vwCl (ot cI cL) (ow cI cL ad σ) [.ref (ad 7), .int x] (some (.int (σ 12 0 j))) := by
  refine ok_startR (cc := b_Se_bestNumber) (own := RSe) (maxL := 2) (ret := (some .int)) (by decide +kernel) rfl rfl (Nat.le_of_ble_eq_true rfl) ?_
  intro p e s m below meth c F hr hlk hP hK ls hl
  have hl : lv_has ls 2 [(0, .ref (ad 7)), (1, .int x)] := hl
  have hx := F.1
  have hb := F.2.1
  refine lv_aload_n hx hb d_Se_bestNumber_0 rfl (lv_at hl 0 rfl) ?_
  refine gf_Se_bestNumbers F hK hP d_Se_bestNumber_1 ?_
  refine lv_iload_n hx hb d_Se_bestNumber_4 rfl (lv_at hl 1 rfl) ?_
  refine ia_12 (j := j) F hK hP hj (by omega) d_Se_bestNumber_5 ?_
  exact ok_iretR F hr hlk (rfl) d_Se_bestNumber_6
theorem x_Se_bestNumber {σ : oS} {x : Int32} {j : Nat} (hj : x = nI j) (hj9 : j < 5) (F : CallFix p m c cc nL s args (cw :: tt) own) (hG : Cond.methodLink own index y_Se_bestNumber ∈ tt) (hR : 0 + 1 ≤ R.frames ∧ 8 + (2 + 11) + 0 ≤ R.locals) (hK : va_K D vwCl (ot cI cL) s) (hP : va_P D vwCl (ow cI cL ad σ) H) (hsz : ls.size = nL) (hW : (rest.map fun v => v.category).sum ≤ 8) (hcs : cells ≤ R.cells ∧ slots ≤ R.slots) (hdg : decode cc pc = .ok (.invokevirtual index, 3)) (kk : W p l e R s m args below meth c H locs cells slots Q (F0 m (pc + 3) ls (.int (σ 12 0 j) :: rest))) : W p l e R s m args below meth c H locs cells slots Q (F0 m pc ls (.int x :: .ref (ad 7) :: rest)) :=
  ok_VR (As := [.int x]) F (c_Se_bestNumber σ hj hj9) 1 (tt_V hG i_Se_bestNumber l_Se_bestNumber in9_Se k_Se_bestNumber) rfl ⟨rfl, rfl⟩ (by decide +kernel) hR hK hP (7) 3 rfl rfl ow_7 rfl hsz rfl hW hcs hdg kk
set_option maxHeartbeats 4000000 in
set_option maxRecDepth 100000 in
theorem c_Se_isWorthwhile (σ : oS) {x : Int32} : ok_MR l y_Se_isWorthwhile (Cond.code y_Se_isWorthwhile b_Se_isWorthwhile 2 (some .boolean) :: tt) { frames := 0, cells := 0, slots := 0, locals := 0 } D vwCl (ot cI cL) (ow cI cL ad σ) [.ref (ad 7), .int x] (some (.int (se_w σ x))) := by
  refine ok_startR (cc := b_Se_isWorthwhile) (own := RSe) (maxL := 2) (ret := (some .boolean)) (by decide +kernel) rfl rfl (Nat.le_of_ble_eq_true rfl) ?_
  intro p e s m below meth c F hr hlk hP hK ls hl
  have hl : lv_has ls 2 [(0, .ref (ad 7)), (1, .int x)] := hl
  have hx := F.1
  have hb := F.2.1
  refine lv_aload_n hx hb d_Se_isWorthwhile_0 rfl (lv_at hl 0 rfl) ?_
  refine gf_Se_found F hK hP d_Se_isWorthwhile_1 ?_
  refine lv_if_eq (tgt := 15) hx hb d_Se_isWorthwhile_4 (by decide) (fun c1 => ?_) (fun c1 => ?_)
  · refine lv_iconst (v := 1) hx hb d_Se_isWorthwhile_15 (by decide) ?_
    refine lv_goto (tgt := 20) hx hb d_Se_isWorthwhile_16 (by decide) ?_
    exact ok_zretR F hr hlk (rfl) (by simp [se_w, c1]) d_Se_isWorthwhile_20
  · refine lv_iload_n hx hb d_Se_isWorthwhile_7 rfl (lv_at hl 1 rfl) ?_
    refine lv_aload_n hx hb d_Se_isWorthwhile_8 rfl (lv_at hl 0 rfl) ?_
    refine gf_Se_bestWorth F hK hP d_Se_isWorthwhile_9 ?_
    refine lv_icmp_le (tgt := 19) hx hb d_Se_isWorthwhile_12 (by decide) (fun c2 => ?_) (fun c2 => ?_)
    · refine lv_iconst (v := 0) hx hb d_Se_isWorthwhile_19 (by decide) ?_
      exact ok_zretR F hr hlk (rfl) (by simp [se_w, c1, c2]) d_Se_isWorthwhile_20
    · refine lv_iconst (v := 1) hx hb d_Se_isWorthwhile_15 (by decide) ?_
      refine lv_goto (tgt := 20) hx hb d_Se_isWorthwhile_16 (by decide) ?_
      exact ok_zretR F hr hlk (rfl) (by simp [se_w, c1, c2]) d_Se_isWorthwhile_20
theorem x_Se_isWorthwhile {σ : oS} {x : Int32} (F : CallFix p m c cc nL s args (cw :: tt) own) (hG : Cond.methodLink own index y_Se_isWorthwhile ∈ tt) (hR : 0 + 1 ≤ R.frames ∧ 8 + (2 + 11) + 0 ≤ R.locals) (hK : va_K D vwCl (ot cI cL) s) (hP : va_P D vwCl (ow cI cL ad σ) H) (hsz : ls.size = nL) (hW : (rest.map fun v => v.category).sum ≤ 8) (hcs : cells ≤ R.cells ∧ slots ≤ R.slots) (hdg : decode cc pc = .ok (.invokevirtual index, 3)) (kk : W p l e R s m args below meth c H locs cells slots Q (F0 m (pc + 3) ls (.int (se_w σ x) :: rest))) : W p l e R s m args below meth c H locs cells slots Q (F0 m pc ls (.int x :: .ref (ad 7) :: rest)) :=
  ok_VR (As := [.int x]) F (c_Se_isWorthwhile σ) 1 (tt_V hG i_Se_isWorthwhile l_Se_isWorthwhile in9_Se k_Se_isWorthwhile) rfl ⟨rfl, rfl⟩ (by decide +kernel) hR hK hP (7) 3 rfl rfl ow_7 rfl hsz rfl hW hcs hdg kk
set_option maxHeartbeats 4000000 in
set_option maxRecDepth 100000 in
theorem c_Se_keep (σ : oS) {n : Nat} (hn : σ 2 0 0 = nI n) (hn9 : n ≤ 5) {x : Int32} : ok_MM l y_Se_keep (Cond.code y_Se_keep b_Se_keep 2 none :: tt) { frames := 1, cells := 0, slots := 0, locals := 40 } D vwCl (ot cI cL) (ow cI cL ad σ) (ow cI cL ad (se_k σ n x)) [.ref (ad 7), .int x] none := by
  refine ok_startM (cc := b_Se_keep) (own := RSe) (maxL := 2) (ret := none) (by decide +kernel) rfl rfl (Nat.le_of_ble_eq_true rfl) ?_
  intro p e s m below meth c A F hr hlk hA hP hK hD hS ls hl
  have hl : lv_has ls 2 [(0, .ref (ad 7)), (1, .int x)] := hl
  have hx := F.1
  have hb := F.2.1
  refine lv_aload_n hx hb d_Se_keep_0 rfl (lv_at hl 0 rfl) ?_
  refine lv_iconst (v := 1) hx hb d_Se_keep_1 (by decide) ?_
  refine pf_Se_found F hK hP hD hS (by rfl) (by rfl) d_Se_keep_2 (fun H locs hP hD hS => ?_)
  refine lv_aload_n hx hb d_Se_keep_5 rfl (lv_at hl 0 rfl) ?_
  refine lv_iload_n hx hb d_Se_keep_6 rfl (lv_at hl 1 rfl) ?_
  refine pf_Se_bestWorth F hK hP hD hS d_Se_keep_7 (fun H locs hP hD hS => ?_)
  refine lv_aload_n hx hb d_Se_keep_10 rfl (lv_at hl 0 rfl) ?_
  refine gf_Se_numbers F hK hP d_Se_keep_11 ?_
  refine lv_iconst (v := 0) hx hb d_Se_keep_14 (by decide) ?_
  refine lv_aload_n hx hb d_Se_keep_15 rfl (lv_at hl 0 rfl) ?_
  refine gf_Se_bestNumbers F hK hP d_Se_keep_16 ?_
  refine lv_iconst (v := 0) hx hb d_Se_keep_19 (by decide) ?_
  refine lv_aload_n hx hb d_Se_keep_20 rfl (lv_at hl 0 rfl) ?_
  refine gf_Se_columns F hK hP d_Se_keep_21 ?_
  refine x_Co_count F (tt2 100 rfl rfl) ⟨Nat.le_of_ble_eq_true rfl, Nat.le_of_ble_eq_true rfl⟩ hK hP hl.1 (Nat.le_of_ble_eq_true rfl) ⟨Nat.zero_le _, Nat.zero_le _⟩ d_Se_keep_24 ?_
  refine ok_copy F hK hP hD hS (List.mem_cons_of_mem _ (tt3 29 rfl rfl)) hl.1 (n9 := n) (by simp [u3_at, hn]) (by omega) (Nat.le_of_ble_eq_true rfl) (Nat.le_of_ble_eq_true rfl) d_Se_keep_27 (fun H locs hP hD hS => ?_)
  have ew : uA (u3 (u3 σ 17 0 0 1) 18 0 0 x) 12 0 (va_cpy ((u3 (u3 σ 17 0 0 1) 18 0 0 x) 11 0) ((u3 (u3 σ 17 0 0 1) 18 0 0 x) 12 0) 0 0 n) = se_k σ n x := by unfold se_k; rw [u3_c (by decide), u3_c (by decide), u3_c (by decide), u3_c (by decide)]
  rw [ew] at hP hD
  clear ew
  exact ok_vretM F hr hlk hP hD hS d_Se_keep_30
theorem x_Se_keep {σ : oS} {n : Nat} (hn : σ 2 0 0 = nI n) (hn9 : n ≤ 5) {x : Int32} (F : CallFix p m c cc nL s args (cw :: tt) own) (hG : Cond.methodLink own index y_Se_keep ∈ tt) (hR : 1 + 1 ≤ R.frames ∧ 8 + (2 + 11) + 40 ≤ R.locals) (hK : va_K D vwCl (ot cI cL) s) (hP : va_P D vwCl (ow cI cL ad σ) H) (hD : va_D A (ow cI cL ad σ)) (hS : va_S A H0 H locs) (hA : ∀ q, H0.size ≤ q → A q) (hsz : ls.size = nL) (hW : (rest.map fun v => v.category).sum ≤ 8) (hcs : cells ≤ R.cells ∧ slots ≤ R.slots) (hdg : decode cc pc = .ok (.invokevirtual index, 3)) (kk : ∀ (H1 : Heap) (locs1 : List Loc), va_P D vwCl (ow cI cL ad (se_k σ n x)) H1 → va_D A (ow cI cL ad (se_k σ n x)) → va_S A H0 H1 locs1 → W p l e R s m args below meth c H1 locs1 cells slots Q (F0 m (pc + 3) ls (rest))) : W p l e R s m args below meth c H locs cells slots Q (F0 m pc ls (.int x :: .ref (ad 7) :: rest)) :=
  ok_VM (As := [.int x]) F (c_Se_keep σ hn hn9) 1 (tt_V hG i_Se_keep l_Se_keep in9_Se k_Se_keep) rfl ⟨rfl, rfl⟩ (by decide +kernel) hR hK hP hD hS hA (7) 3 rfl rfl ow_7 rfl hsz rfl hW hcs hdg kk
set_option maxHeartbeats 4000000 in
set_option maxRecDepth 100000 in
theorem c_Se_toNextNumber (σ : oS) {q : Nat} (hq : σ 15 0 0 = nI q - 1) (hq5 : q ≤ 5) : ok_MM l y_Se_toNextNumber (Cond.code y_Se_toNextNumber b_Se_toNextNumber 1 none :: tt) { frames := 0, cells := 0, slots := 0, locals := 0 } D vwCl (ot cI cL) (ow cI cL ad σ) (ow cI cL ad (se_n σ q)) [.ref (ad 7)] none := by
  refine ok_startM (cc := b_Se_toNextNumber) (own := RSe) (maxL := 1) (ret := none) (by decide +kernel) rfl rfl (Nat.le_of_ble_eq_true rfl) ?_
  intro p e s m below meth c A F hr hlk hA hP hK hD hS ls hl
  have hl : lv_has ls 1 [(0, .ref (ad 7))] := hl
  have hx := F.1
  have hb := F.2.1
  have lp : ∀ (r : Nat) (τ : oS), r ≤ 5 → τ 15 0 0 = nI r - 1 → se_n σ q = se_n τ r → ∀ (H : Heap) (locs : List Loc), va_P D vwCl (ow cI cL ad τ) H → va_D A (ow cI cL ad τ) → va_S A s.heap H locs → ∀ ls : Array Slot, lv_has ls 1 [(0, .ref (ad 7))] → W p l e { frames := 0, cells := 0, slots := 0, locals := 0 } s m ([.ref (ad 7)] : List Value).toArray below meth c H locs 0 0 (MQ below (ok_qA D vwCl A (ow cI cL ad (se_n σ q)) none) ([.ref (ad 7)] : List Value).toArray s 0 0 A) (F0 m 0 ls []) := by
    intro r
    induction r with
    | zero =>
      intro τ h5 hat heq H locs hP hD hS ls hl
      rw [se_n] at heq
      refine lv_aload_n hx hb d_Se_toNextNumber_0 rfl (lv_at hl 0 rfl) ?_
      refine gf_Se_at F hK hP d_Se_toNextNumber_1 ?_
      refine lv_if_lt (tgt := 32) hx hb d_Se_toNextNumber_4 (by decide) (fun c1 => ?_) (fun c1 => ?_)
      · refine lv_aload_n hx hb d_Se_toNextNumber_32 rfl (lv_at hl 0 rfl) ?_
        refine gf_Se_at F hK hP d_Se_toNextNumber_33 ?_
        refine lv_if_lt (tgt := 52) hx hb d_Se_toNextNumber_36 (by decide) (fun c2 => ?_) (fun c2 => ?_)
        · exact ok_vretM F hr hlk (by rw [heq]; exact hP) (by rw [heq]; exact hD) hS d_Se_toNextNumber_52
        · exact absurd (by rw [hat]; decide) c2
      · exact absurd (by rw [hat]; decide) c1
    | succ r ih =>
      intro τ h5 hat heq H locs hP hD hS ls hl
      rw [nI_pred] at hat
      rw [se_n] at heq
      refine lv_aload_n hx hb d_Se_toNextNumber_0 rfl (lv_at hl 0 rfl) ?_
      refine gf_Se_at F hK hP d_Se_toNextNumber_1 ?_
      refine lv_if_lt (tgt := 32) hx hb d_Se_toNextNumber_4 (by decide) (fun c3 => ?_) (fun c3 => ?_)
      · exact absurd c3 (by rw [hat]; exact nI_pos (by omega))
      · refine lv_aload_n hx hb d_Se_toNextNumber_7 rfl (lv_at hl 0 rfl) ?_
        refine gf_Se_numbers F hK hP d_Se_toNextNumber_8 ?_
        refine lv_aload_n hx hb d_Se_toNextNumber_11 rfl (lv_at hl 0 rfl) ?_
        refine gf_Se_at F hK hP d_Se_toNextNumber_12 ?_
        refine ia_11 (j := r) F hK hP hat (by omega) d_Se_toNextNumber_15 ?_
        refine lv_if_ne (tgt := 32) hx hb d_Se_toNextNumber_16 (by decide) (fun c4 => ?_) (fun c4 => ?_)
        · rw [if_neg c4] at heq
          refine lv_aload_n hx hb d_Se_toNextNumber_32 rfl (lv_at hl 0 rfl) ?_
          refine gf_Se_at F hK hP d_Se_toNextNumber_33 ?_
          refine lv_if_lt (tgt := 52) hx hb d_Se_toNextNumber_36 (by decide) (fun c5 => ?_) (fun c5 => ?_)
          · exact absurd c5 (by rw [hat]; exact nI_pos (by omega))
          · refine lv_aload_n hx hb d_Se_toNextNumber_39 rfl (lv_at hl 0 rfl) ?_
            refine gf_Se_numbers F hK hP d_Se_toNextNumber_40 ?_
            refine lv_aload_n hx hb d_Se_toNextNumber_43 rfl (lv_at hl 0 rfl) ?_
            refine gf_Se_at F hK hP d_Se_toNextNumber_44 ?_
            refine lv_dup2_11 hx hb d_Se_toNextNumber_47 rfl rfl ?_
            refine ia_11 (j := r) F hK hP hat (by omega) d_Se_toNextNumber_48 ?_
            refine lv_iconst (v := 1) hx hb d_Se_toNextNumber_49 (by decide) ?_
            refine lv_isub hx hb d_Se_toNextNumber_50 ?_
            refine sa_11 (j := r) F hK hP hD hS hat (by omega) d_Se_toNextNumber_51 (fun H locs hP hD hS => ?_)
            exact ok_vretM F hr hlk (by rw [heq]; exact hP) (by rw [heq]; exact hD) hS d_Se_toNextNumber_52
        · rw [if_pos c4] at heq
          refine lv_aload_n hx hb d_Se_toNextNumber_19 rfl (lv_at hl 0 rfl) ?_
          refine lv_dup hx hb d_Se_toNextNumber_20 rfl ?_
          refine gf_Se_at F hK hP d_Se_toNextNumber_21 ?_
          refine lv_iconst (v := 1) hx hb d_Se_toNextNumber_24 (by decide) ?_
          refine lv_isub hx hb d_Se_toNextNumber_25 ?_
          refine pf_Se_at F hK hP hD hS d_Se_toNextNumber_26 (fun H locs hP hD hS => ?_)
          refine lv_goto (tgt := 0) hx hb d_Se_toNextNumber_29 (by decide) ?_
          have ew : u3 τ 15 0 0 ((τ 15 0 0) - 1) = u3 τ 15 0 0 (nI r - 1) := by rw [hat]
          rw [ew] at hP hD
          clear ew
          exact ih _ (by omega) (by rw [u3_s]) heq H locs hP hD hS ls hl
  exact lp q σ hq5 hq rfl _ _ hP hD hS ls hl
theorem x_Se_toNextNumber {σ : oS} {q : Nat} (hq : σ 15 0 0 = nI q - 1) (hq5 : q ≤ 5) (F : CallFix p m c cc nL s args (cw :: tt) own) (hG : Cond.methodLink own index y_Se_toNextNumber ∈ tt) (hR : 0 + 1 ≤ R.frames ∧ 8 + (1 + 11) + 0 ≤ R.locals) (hK : va_K D vwCl (ot cI cL) s) (hP : va_P D vwCl (ow cI cL ad σ) H) (hD : va_D A (ow cI cL ad σ)) (hS : va_S A H0 H locs) (hA : ∀ q, H0.size ≤ q → A q) (hsz : ls.size = nL) (hW : (rest.map fun v => v.category).sum ≤ 8) (hcs : cells ≤ R.cells ∧ slots ≤ R.slots) (hdg : decode cc pc = .ok (.invokevirtual index, 3)) (kk : ∀ (H1 : Heap) (locs1 : List Loc), va_P D vwCl (ow cI cL ad (se_n σ q)) H1 → va_D A (ow cI cL ad (se_n σ q)) → va_S A H0 H1 locs1 → W p l e R s m args below meth c H1 locs1 cells slots Q (F0 m (pc + 3) ls (rest))) : W p l e R s m args below meth c H locs cells slots Q (F0 m pc ls (.ref (ad 7) :: rest)) :=
  ok_VM (As := []) F (c_Se_toNextNumber σ hq hq5) 0 (tt_V hG i_Se_toNextNumber l_Se_toNextNumber in9_Se k_Se_toNextNumber) rfl ⟨rfl, rfl⟩ (by decide +kernel) hR hK hP hD hS hA (7) 3 rfl rfl ow_7 rfl hsz rfl hW hcs hdg kk
set_option maxHeartbeats 4000000 in
set_option maxRecDepth 100000 in
theorem c_Se_begin (σ : oS) {r : Nat} {u : Nat} (h_r : σ 9 0 0 = nI r) (h_u : σ 10 0 0 = nI u) (hr4 : r ≤ 4) (hu4 : u ≤ 4) {n : Nat} (hn : σ 2 0 0 = nI n) (hn9 : n ≤ 5) : ok_MM l y_Se_begin (Cond.code y_Se_begin b_Se_begin 3 none :: tt) { frames := 4, cells := 0, slots := 0, locals := 89 } D vwCl (ot cI cL) (ow cI cL ad σ) (ow cI cL ad (se_b σ n r u)) [.ref (ad 7)] none := by
  refine ok_startM (cc := b_Se_begin) (own := RSe) (maxL := 3) (ret := none) (by decide +kernel) rfl rfl (Nat.le_of_ble_eq_true rfl) ?_
  intro p e s m below meth c A F hr hlk hA hP hK hD hS ls hl
  have hl : lv_has ls 3 [(0, .ref (ad 7))] := hl
  have hx := F.1
  have hb := F.2.1
  have lp : ∀ q : Nat, q ≤ n → ∀ (x : Int32), x = nI q - 1 → ∀ (H : Heap) (locs : List Loc), va_P D vwCl (ow cI cL ad (se_h σ n q)) H → va_D A (ow cI cL ad (se_h σ n q)) → va_S A s.heap H locs → ∀ ls : Array Slot, lv_has ls 3 [(2, .int x), (1, .int (σ 2 0 0)), (0, .ref (ad 7))] → W p l e { frames := 4, cells := 0, slots := 0, locals := 89 } s m ([.ref (ad 7)] : List Value).toArray below meth c H locs 0 0 (MQ below (ok_qA D vwCl A (ow cI cL ad (se_b σ n r u)) none) ([.ref (ad 7)] : List Value).toArray s 0 0 A) (F0 m 19 ls []) := by
    intro q
    induction q with
    | zero =>
      intro h1 x hx9 H locs hP hD hS ls hl
      refine lv_iload_n hx hb d_Se_begin_19 rfl (lv_at hl 0 rfl) ?_
      refine lv_if_lt (tgt := 65) hx hb d_Se_begin_20 (by decide) (fun c1 => ?_) (fun c1 => ?_)
      · refine lv_aload_n hx hb d_Se_begin_65 rfl (lv_at hl 2 rfl) ?_
        refine gf_Se_lines F hK hP d_Se_begin_66 ?_
        refine lv_aload_n hx hb d_Se_begin_69 rfl (lv_at hl 2 rfl) ?_
        refine gf_Se_columns F hK hP d_Se_begin_70 ?_
        refine x_Ls_beginSums (r := r) (u := u) (by rw [se_h_c (by decide)]; exact h_r) (by rw [se_h_c (by decide)]; exact h_u) hr4 hu4 (n := n) (by rw [se_h_c (by decide)]; exact hn) hn9 F (tt2 104 rfl rfl) ⟨Nat.le_of_ble_eq_true rfl, Nat.le_of_ble_eq_true rfl⟩ hK hP hD hS hA hl.1 (Nat.le_of_ble_eq_true rfl) ⟨Nat.zero_le _, Nat.zero_le _⟩ d_Se_begin_73 (fun H locs hP hD hS => ?_)
        refine lv_aload_n hx hb d_Se_begin_76 rfl (lv_at hl 2 rfl) ?_
        refine gf_Se_worths F hK hP d_Se_begin_77 ?_
        refine lv_iconst (v := 0) hx hb d_Se_begin_80 (by decide) ?_
        refine lv_iconst (v := 0) hx hb d_Se_begin_81 (by decide) ?_
        refine sa_13 (j := 0) F hK hP hD hS (by decide) (by omega) d_Se_begin_82 (fun H locs hP hD hS => ?_)
        refine lv_aload_n hx hb d_Se_begin_83 rfl (lv_at hl 2 rfl) ?_
        refine lv_iconst (v := 0) hx hb d_Se_begin_84 (by decide) ?_
        refine pf_Se_steps F hK hP hD hS d_Se_begin_85 (fun H locs hP hD hS => ?_)
        refine lv_aload_n hx hb d_Se_begin_88 rfl (lv_at hl 2 rfl) ?_
        refine lv_iconst (v := 0) hx hb d_Se_begin_89 (by decide) ?_
        refine pf_Se_found F hK hP hD hS (by rfl) (by rfl) d_Se_begin_90 (fun H locs hP hD hS => ?_)
        refine lv_aload_n hx hb d_Se_begin_93 rfl (lv_at hl 2 rfl) ?_
        refine lv_iconst (v := 0) hx hb d_Se_begin_94 (by decide) ?_
        refine pf_Se_at F hK hP hD hS d_Se_begin_95 (fun H locs hP hD hS => ?_)
        refine lv_aload_n hx hb d_Se_begin_98 rfl (lv_at hl 2 rfl) ?_
        refine gf_Se_numbers F hK hP d_Se_begin_99 ?_
        refine lv_iconst (v := 0) hx hb d_Se_begin_102 (by decide) ?_
        refine lv_aload_n hx hb d_Se_begin_103 rfl (lv_at hl 2 rfl) ?_
        refine gf_Se_columns F hK hP d_Se_begin_104 ?_
        refine lv_iconst (v := 0) hx hb d_Se_begin_107 (by decide) ?_
        refine x_Co_top (j := 0) (by decide) (by omega) F (tt2 102 rfl rfl) ⟨Nat.le_of_ble_eq_true rfl, Nat.le_of_ble_eq_true rfl⟩ hK hP hl.1 (Nat.le_of_ble_eq_true rfl) ⟨Nat.zero_le _, Nat.zero_le _⟩ d_Se_begin_108 ?_
        refine sa_11 (j := 0) F hK hP hD hS (by decide) (by omega) d_Se_begin_111 (fun H locs hP hD hS => ?_)
        have ew : u3 (u3 (u3 (u3 (u3 (ls_b (se_h σ n 0) r n (r + u)) 13 0 0 0) 16 0 0 0) 17 0 0 0) 15 0 0 0) 11 0 0 ((u3 (u3 (u3 (u3 (ls_b (se_h σ n 0) r n (r + u)) 13 0 0 0) 16 0 0 0) 17 0 0 0) 15 0 0 0) 1 0 0) = se_b σ n r u := by unfold se_b; congr 1; simp [u3_at, ls_b_c, se_h_c]
        rw [ew] at hP hD
        clear ew
        exact ok_vretM F hr hlk hP hD hS d_Se_begin_112
      · exact absurd (by rw [hx9]; decide) c1
    | succ q ih =>
      intro h1 x hx9 H locs hP hD hS ls hl
      rw [nI_pred] at hx9
      refine lv_iload_n hx hb d_Se_begin_19 rfl (lv_at hl 0 rfl) ?_
      refine lv_if_lt (tgt := 65) hx hb d_Se_begin_20 (by decide) (fun c2 => ?_) (fun c2 => ?_)
      · exact absurd c2 (by rw [hx9]; exact nI_pos (by omega))
      · refine lv_aload_n hx hb d_Se_begin_23 rfl (lv_at hl 2 rfl) ?_
        refine gf_Se_hopes F hK hP d_Se_begin_24 ?_
        refine lv_iload_n hx hb d_Se_begin_27 rfl (lv_at hl 0 rfl) ?_
        refine lv_aload_n hx hb d_Se_begin_28 rfl (lv_at hl 2 rfl) ?_
        refine gf_Se_hopes F hK hP d_Se_begin_29 ?_
        refine lv_iload_n hx hb d_Se_begin_32 rfl (lv_at hl 0 rfl) ?_
        refine lv_iconst (v := 1) hx hb d_Se_begin_33 (by decide) ?_
        refine lv_iadd hx hb d_Se_begin_34 ?_
        refine ia_14 (j := (q + 1)) F hK hP (by rw [hx9]; exact nI_1 _) (by omega) d_Se_begin_35 ?_
        refine lv_aload_n hx hb d_Se_begin_36 rfl (lv_at hl 2 rfl) ?_
        refine gf_Se_columns F hK hP d_Se_begin_37 ?_
        refine lv_iload_n hx hb d_Se_begin_40 rfl (lv_at hl 0 rfl) ?_
        refine x_Co_worth (j := q) hx9 (by omega) F (tt2 101 rfl rfl) ⟨Nat.le_of_ble_eq_true rfl, Nat.le_of_ble_eq_true rfl⟩ hK hP hl.1 (Nat.le_of_ble_eq_true rfl) ⟨Nat.zero_le _, Nat.zero_le _⟩ d_Se_begin_41 ?_
        refine lv_aload_n hx hb d_Se_begin_44 rfl (lv_at hl 2 rfl) ?_
        refine gf_Se_columns F hK hP d_Se_begin_45 ?_
        refine lv_iload_n hx hb d_Se_begin_48 rfl (lv_at hl 0 rfl) ?_
        refine x_Co_top (j := q) hx9 (by omega) F (tt2 102 rfl rfl) ⟨Nat.le_of_ble_eq_true rfl, Nat.le_of_ble_eq_true rfl⟩ hK hP hl.1 (Nat.le_of_ble_eq_true rfl) ⟨Nat.zero_le _, Nat.zero_le _⟩ d_Se_begin_49 ?_
        refine lv_imul hx hb d_Se_begin_52 ?_
        refine lv_iconst (v := 0) hx hb d_Se_begin_53 (by decide) ?_
        refine ok_mmax F (List.mem_cons_of_mem _ (tt2 103 rfl rfl)) hl.1 (Nat.le_of_ble_eq_true rfl) (Nat.le_of_ble_eq_true rfl) (Nat.zero_le _) (Nat.zero_le _) d_Se_begin_54 ?_
        refine lv_iadd hx hb d_Se_begin_57 ?_
        refine sa_14 (j := q) F hK hP hD hS hx9 (by omega) d_Se_begin_58 (fun H locs hP hD hS => ?_)
        refine lv_iinc (v := x + (-1)) (lv' := [(2, .int (x + (-1))), (1, .int (σ 2 0 0)), (0, .ref (ad 7))]) hx hb d_Se_begin_59 hl (k := 0) rfl (by rw [litm1]) (by decide) rfl (fun ls hl => ?_)
        refine lv_goto (tgt := 19) hx hb d_Se_begin_62 (by decide) ?_
        have ew : u3 (se_h σ n (q + 1)) 14 0 q (((se_h σ n (q + 1)) 14 0 (q + 1)) + (if (((se_h σ n (q + 1)) 0 0 q) * ((se_h σ n (q + 1)) 1 0 q)) < 0 then 0 else (((se_h σ n (q + 1)) 0 0 q) * ((se_h σ n (q + 1)) 1 0 q)))) = se_h σ n q := by exact se_h_step (by omega)
        rw [ew] at hP hD
        clear ew
        exact ih (by omega) _ (by rw [hx9, Int32.sub_eq_add_neg]) H locs hP hD hS ls (lv_sub hl [0, 1, 2] rfl)
  refine lv_aload_n hx hb d_Se_begin_0 rfl (lv_at hl 0 rfl) ?_
  refine gf_Se_columns F hK hP d_Se_begin_1 ?_
  refine x_Co_count F (tt2 100 rfl rfl) ⟨Nat.le_of_ble_eq_true rfl, Nat.le_of_ble_eq_true rfl⟩ hK hP hl.1 (Nat.le_of_ble_eq_true rfl) ⟨Nat.zero_le _, Nat.zero_le _⟩ d_Se_begin_4 ?_
  refine lv_istore_n (lv' := [(1, .int (σ 2 0 0)), (0, .ref (ad 7))]) hx hb d_Se_begin_7 rfl hl (by decide) rfl (fun ls hl => ?_)
  refine lv_aload_n hx hb d_Se_begin_8 rfl (lv_at hl 1 rfl) ?_
  refine gf_Se_hopes F hK hP d_Se_begin_9 ?_
  refine lv_iload_n hx hb d_Se_begin_12 rfl (lv_at hl 0 rfl) ?_
  refine lv_iconst (v := 0) hx hb d_Se_begin_13 (by decide) ?_
  refine sa_14 (j := n) F hK hP hD hS hn (by omega) d_Se_begin_14 (fun H locs hP hD hS => ?_)
  refine lv_iload_n hx hb d_Se_begin_15 rfl (lv_at hl 0 rfl) ?_
  refine lv_iconst (v := 1) hx hb d_Se_begin_16 (by decide) ?_
  refine lv_isub hx hb d_Se_begin_17 ?_
  refine lv_istore_n (lv' := [(2, .int ((σ 2 0 0) - 1)), (1, .int (σ 2 0 0)), (0, .ref (ad 7))]) hx hb d_Se_begin_18 rfl hl (by decide) rfl (fun ls hl => ?_)
  rw [se_h_0] at hP hD
  exact lp n (by omega) _ (by rw [hn]) H locs hP hD hS ls (lv_sub hl [0, 1, 2] rfl)
theorem x_Se_begin {σ : oS} {r : Nat} {u : Nat} (h_r : σ 9 0 0 = nI r) (h_u : σ 10 0 0 = nI u) (hr4 : r ≤ 4) (hu4 : u ≤ 4) {n : Nat} (hn : σ 2 0 0 = nI n) (hn9 : n ≤ 5) (F : CallFix p m c cc nL s args (cw :: tt) own) (hG : Cond.methodLink own index y_Se_begin ∈ tt) (hR : 4 + 1 ≤ R.frames ∧ 8 + (3 + 11) + 89 ≤ R.locals) (hK : va_K D vwCl (ot cI cL) s) (hP : va_P D vwCl (ow cI cL ad σ) H) (hD : va_D A (ow cI cL ad σ)) (hS : va_S A H0 H locs) (hA : ∀ q, H0.size ≤ q → A q) (hsz : ls.size = nL) (hW : (rest.map fun v => v.category).sum ≤ 8) (hcs : cells ≤ R.cells ∧ slots ≤ R.slots) (hdg : decode cc pc = .ok (.invokevirtual index, 3)) (kk : ∀ (H1 : Heap) (locs1 : List Loc), va_P D vwCl (ow cI cL ad (se_b σ n r u)) H1 → va_D A (ow cI cL ad (se_b σ n r u)) → va_S A H0 H1 locs1 → W p l e R s m args below meth c H1 locs1 cells slots Q (F0 m (pc + 3) ls (rest))) : W p l e R s m args below meth c H locs cells slots Q (F0 m pc ls (.ref (ad 7) :: rest)) :=
  ok_VM (As := []) F (c_Se_begin σ h_r h_u hr4 hu4 hn hn9) 0 (tt_V hG i_Se_begin l_Se_begin in9_Se k_Se_begin) rfl ⟨rfl, rfl⟩ (by decide +kernel) hR hK hP hD hS hA (7) 3 rfl rfl ow_7 rfl hsz rfl hW hcs hdg kk
set_option maxHeartbeats 4000000 in
set_option maxRecDepth 100000 in
theorem c_Se_endWithoutColumns (σ : oS) {r : Nat} {u : Nat} (h_r : σ 9 0 0 = nI r) (h_u : σ 10 0 0 = nI u) (hr4 : r ≤ 4) (hu4 : u ≤ 4) : ok_MM l y_Se_endWithoutColumns (Cond.code y_Se_endWithoutColumns b_Se_endWithoutColumns 1 none :: tt) { frames := 2, cells := 0, slots := 0, locals := 42 } D vwCl (ot cI cL) (ow cI cL ad σ) (ow cI cL ad (se_0 σ r u)) [.ref (ad 7)] none := by
  refine ok_startM (cc := b_Se_endWithoutColumns) (own := RSe) (maxL := 1) (ret := none) (by decide +kernel) rfl rfl (Nat.le_of_ble_eq_true rfl) ?_
  intro p e s m below meth c A F hr hlk hA hP hK hD hS ls hl
  have hl : lv_has ls 1 [(0, .ref (ad 7))] := hl
  have hx := F.1
  have hb := F.2.1
  refine lv_aload_n hx hb d_Se_endWithoutColumns_0 rfl (lv_at hl 0 rfl) ?_
  refine lv_aload_n hx hb d_Se_endWithoutColumns_1 rfl (lv_at hl 0 rfl) ?_
  refine gf_Se_lines F hK hP d_Se_endWithoutColumns_2 ?_
  refine x_Ls_holdWithoutColumns (r := r) (u := u) h_r h_u hr4 hu4 F (tt3 0 rfl rfl) ⟨Nat.le_of_ble_eq_true rfl, Nat.le_of_ble_eq_true rfl⟩ hK hP hl.1 (Nat.le_of_ble_eq_true rfl) ⟨Nat.zero_le _, Nat.zero_le _⟩ d_Se_endWithoutColumns_5 ?_
  refine pf_Se_found F hK hP hD hS (by split <;> rfl) (by split <;> rfl) d_Se_endWithoutColumns_8 (fun H locs hP hD hS => ?_)
  refine lv_aload_n hx hb d_Se_endWithoutColumns_11 rfl (lv_at hl 0 rfl) ?_
  refine lv_iconst (v := 0) hx hb d_Se_endWithoutColumns_12 (by decide) ?_
  refine pf_Se_bestWorth F hK hP hD hS d_Se_endWithoutColumns_13 (fun H locs hP hD hS => ?_)
  refine lv_aload_n hx hb d_Se_endWithoutColumns_16 rfl (lv_at hl 0 rfl) ?_
  refine lv_iconst (v := -1) hx hb d_Se_endWithoutColumns_17 (by decide) ?_
  refine pf_Se_at F hK hP hD hS d_Se_endWithoutColumns_18 (fun H locs hP hD hS => ?_)
  have ew : u3 (u3 (u3 σ 17 0 0 (if ls_0 σ r (r + u) = true then 1 else 0)) 18 0 0 0) 15 0 0 (-1) = se_0 σ r u := by rfl
  rw [ew] at hP hD
  clear ew
  exact ok_vretM F hr hlk hP hD hS d_Se_endWithoutColumns_21
theorem x_Se_endWithoutColumns {σ : oS} {r : Nat} {u : Nat} (h_r : σ 9 0 0 = nI r) (h_u : σ 10 0 0 = nI u) (hr4 : r ≤ 4) (hu4 : u ≤ 4) (F : CallFix p m c cc nL s args (cw :: tt) own) (hG : Cond.methodLink own index y_Se_endWithoutColumns ∈ tt) (hR : 2 + 1 ≤ R.frames ∧ 8 + (1 + 11) + 42 ≤ R.locals) (hK : va_K D vwCl (ot cI cL) s) (hP : va_P D vwCl (ow cI cL ad σ) H) (hD : va_D A (ow cI cL ad σ)) (hS : va_S A H0 H locs) (hA : ∀ q, H0.size ≤ q → A q) (hsz : ls.size = nL) (hW : (rest.map fun v => v.category).sum ≤ 8) (hcs : cells ≤ R.cells ∧ slots ≤ R.slots) (hdg : decode cc pc = .ok (.invokevirtual index, 3)) (kk : ∀ (H1 : Heap) (locs1 : List Loc), va_P D vwCl (ow cI cL ad (se_0 σ r u)) H1 → va_D A (ow cI cL ad (se_0 σ r u)) → va_S A H0 H1 locs1 → W p l e R s m args below meth c H1 locs1 cells slots Q (F0 m (pc + 3) ls (rest))) : W p l e R s m args below meth c H locs cells slots Q (F0 m pc ls (.ref (ad 7) :: rest)) :=
  ok_VM (As := []) F (c_Se_endWithoutColumns σ h_r h_u hr4 hu4) 0 (tt_V hG i_Se_endWithoutColumns l_Se_endWithoutColumns in9_Se k_Se_endWithoutColumns) rfl ⟨rfl, rfl⟩ (by decide +kernel) hR hK hP hD hS hA (7) 3 rfl rfl ow_7 rfl hsz rfl hW hcs hdg kk
end
