-- follows
def fo_b (x y : Int32) : Int32 := if (x >>> (y &&& 31)) &&& 1 = 1 then 1 else 0
theorem fo_b_b {x y : Int32} : narrow .boolean (.int (fo_b x y)) = .int (fo_b x y) := by
  unfold fo_b
  split <;> rfl
/-- the greatest of g over the bits below m -/
def fo_s (g : Nat → Int32) (bits : Int32) : Nat → Int32
  | 0 => 0
  | b + 1 => if fo_b bits (nI b) = 0 then fo_s g bits b else (if fo_s g bits b < g b then g b else fo_s g bits b)
def fo_l (σ : oS) : Nat → Nat → Int32 → Int32
  | 0, _, _ => 0
  | d + 1, a, y => fo_s (fun b => fo_l σ d b (y ||| (1 <<< (nI a &&& 31)))) (σ 19 0 a &&& ((y ||| (1 <<< (nI a &&& 31))) ^^^ (-1))) 5 + 1
def fo_n (σ : oS) (cs us : Int32) (b : Nat) : Int32 := if fo_b cs (nI b) = 0 then 0 else fo_l σ 5 b us
def fo_p (σ : oS) (cs us : Int32) : Nat → Int32 × Int32
  | 0 => (-1, 0)
  | b + 1 => if fo_n σ cs us b ≤ (fo_p σ cs us b).2 then fo_p σ cs us b else (nI b, fo_n σ cs us b)
theorem fo_p_1 {σ : oS} {cs us : Int32} {m : Nat} : (fo_p σ cs us m).1 = -1 ∨ ∃ b, b < m ∧ (fo_p σ cs us m).1 = nI b := by
  induction m with
  | zero => exact Or.inl rfl
  | succ m ih =>
    rw [fo_p]
    split
    · rcases ih with h | ⟨b, h1, h2⟩
      · exact Or.inl h
      · exact Or.inr ⟨b, by omega, h2⟩
    · exact Or.inr ⟨m, by omega, rfl⟩
def fo_a (σ : oS) : Nat → Int32 → Int32 → Int32 → Int32
  | 0, _, _, c => c
  | m + 1, us, cs, _ => if (fo_p σ cs us 5).1 < 0 then -1 else fo_a σ m (us ||| (1 <<< ((fo_p σ cs us 5).1 &&& 31))) (σ 19 0 (fo_p σ cs us 5).1.toNatClampNeg &&& ((us ||| (1 <<< ((fo_p σ cs us 5).1 &&& 31))) ^^^ (-1))) (fo_p σ cs us 5).1
section
variable {l : Launch} {D : va_G} {cI cL : ClassId} {ad : Nat → Nat}
variable {p : Program} {e : Env} {R : Room} {s : State} {m : MethodId} {args : Array Value} {below : List Frame} {meth : Method} {c : Code} {H : Heap} {locs : List Loc} {cells slots : Nat} {Q : State → Prop} {cc : ByteArray} {pc nL index : Nat} {ls : Array Slot} {rest : List Value} {A : Nat → Prop} {H0 : Heap} {cw : Cond} {own : String}
set_option maxHeartbeats 4000000 in
set_option maxRecDepth 100000 in
theorem c_Fo_count (σ : oS) : ok_MR l y_Fo_count (Cond.code y_Fo_count b_Fo_count 1 (some .int) :: tt) { frames := 0, cells := 0, slots := 0, locals := 0 } D vwCl (ot cI cL) (ow cI cL ad σ) [.ref (ad 12)] (some (.int (σ 20 0 0))) := by
  refine ok_startR (cc := b_Fo_count) (own := RFo) (maxL := 1) (ret := (some .int)) (by decide +kernel) rfl rfl (Nat.le_of_ble_eq_true rfl) ?_
  intro p e s m below meth c F hr hlk hP hK ls hl
  have hl : lv_has ls 1 [(0, .ref (ad 12))] := hl
  have hx := F.1
  have hb := F.2.1
  refine lv_aload_n hx hb d_Fo_count_0 rfl (lv_at hl 0 rfl) ?_
  refine gf_Fo_count F hK hP d_Fo_count_1 ?_
  exact ok_iretR F hr hlk (rfl) d_Fo_count_4
theorem x_Fo_count {σ : oS} (F : CallFix p m c cc nL s args (cw :: tt) own) (hG : Cond.methodLink own index y_Fo_count ∈ tt) (hR : 0 + 1 ≤ R.frames ∧ 8 + (1 + 11) + 0 ≤ R.locals) (hK : va_K D vwCl (ot cI cL) s) (hP : va_P D vwCl (ow cI cL ad σ) H) (hsz : ls.size = nL) (hW : (rest.map fun v => v.category).sum ≤ 8) (hcs : cells ≤ R.cells ∧ slots ≤ R.slots) (hdg : decode cc pc = .ok (.invokevirtual index, 3)) (kk : W p l e R s m args below meth c H locs cells slots Q (F0 m (pc + 3) ls (.int (σ 20 0 0) :: rest))) : W p l e R s m args below meth c H locs cells slots Q (F0 m pc ls (.ref (ad 12) :: rest)) :=
  ok_VR (As := []) F (c_Fo_count σ) 0 (tt_V hG i_Fo_count l_Fo_count in9_Fo k_Fo_count) rfl ⟨rfl, rfl⟩ (by decide +kernel) hR hK hP (12) 4 rfl rfl ow_12 rfl hsz rfl hW hcs hdg kk
set_option maxHeartbeats 4000000 in
set_option maxRecDepth 100000 in
theorem c_Fo_hasBit (σ : oS) {x : Int32} {y : Int32} : ok_MR l y_Fo_hasBit (Cond.code y_Fo_hasBit b_Fo_hasBit 2 (some .boolean) :: tt) { frames := 0, cells := 0, slots := 0, locals := 0 } D vwCl (ot cI cL) (ow cI cL ad σ) [.int x, .int y] (some (.int (fo_b x y))) := by
  refine ok_startR (cc := b_Fo_hasBit) (own := RFo) (maxL := 2) (ret := (some .boolean)) (by decide +kernel) rfl rfl (Nat.le_of_ble_eq_true rfl) ?_
  intro p e s m below meth c F hr hlk hP hK ls hl
  have hl : lv_has ls 2 [(0, .int x), (1, .int y)] := hl
  have hx := F.1
  have hb := F.2.1
  refine lv_iload_n hx hb d_Fo_hasBit_0 rfl (lv_at hl 0 rfl) ?_
  refine lv_iload_n hx hb d_Fo_hasBit_1 rfl (lv_at hl 1 rfl) ?_
  refine lv_ishr hx hb d_Fo_hasBit_2 ?_
  refine lv_iconst (v := 1) hx hb d_Fo_hasBit_3 (by decide) ?_
  refine lv_iand hx hb d_Fo_hasBit_4 ?_
  refine lv_iconst (v := 1) hx hb d_Fo_hasBit_5 (by decide) ?_
  refine lv_icmp_ne (tgt := 13) hx hb d_Fo_hasBit_6 (by decide) (fun c1 => ?_) (fun c1 => ?_)
  · refine lv_iconst (v := 0) hx hb d_Fo_hasBit_13 (by decide) ?_
    exact ok_zretR F hr hlk (rfl) (by simp [fo_b, c1]) d_Fo_hasBit_14
  · refine lv_iconst (v := 1) hx hb d_Fo_hasBit_9 (by decide) ?_
    refine lv_goto (tgt := 14) hx hb d_Fo_hasBit_10 (by decide) ?_
    exact ok_zretR F hr hlk (rfl) (by simp [fo_b, c1]) d_Fo_hasBit_14
theorem x_Fo_hasBit {σ : oS} {x : Int32} {y : Int32} (F : CallFix p m c cc nL s args (cw :: tt) RFo) (hG : Cond.methodLink RFo index y_Fo_hasBit ∈ tt) (hR : 0 + 1 ≤ R.frames ∧ 8 + (2 + 11) + 0 ≤ R.locals) (hK : va_K D vwCl (ot cI cL) s) (hP : va_P D vwCl (ow cI cL ad σ) H) (hsz : ls.size = nL) (hW : (rest.map fun v => v.category).sum ≤ 8) (hcs : cells ≤ R.cells ∧ slots ≤ R.slots) (hdg : decode cc pc = .ok (.invokestatic index, 3)) (kk : W p l e R s m args below meth c H locs cells slots Q (F0 m (pc + 3) ls (.int (fo_b x y) :: rest))) : W p l e R s m args below meth c H locs cells slots Q (F0 m pc ls (.int y :: .int x :: rest)) :=
  ok_SR (As := [.int x, .int y]) F (c_Fo_hasBit σ) 2 (tt_S hG s_Fo_hasBit in9_Fo k_Fo_hasBit) rfl ⟨rfl, rfl⟩ (by decide +kernel) hR hK hP rfl hsz rfl hW hcs hdg kk
set_option maxHeartbeats 4000000 in
set_option maxRecDepth 100000 in
theorem c_Fo_has (σ : oS) {x : Int32} {j : Nat} (hj : x = nI j) (hj9 : j < 5) {y : Int32} : ok_MR l y_Fo_has (Cond.code y_Fo_has b_Fo_has 3 (some .boolean) :: tt) { frames := 1, cells := 0, slots := 0, locals := 21 } D vwCl (ot cI cL) (ow cI cL ad σ) [.ref (ad 12), .int x, .int y] (some (.int (fo_b (σ 19 0 j) y))) := by
  refine ok_startR (cc := b_Fo_has) (own := RFo) (maxL := 3) (ret := (some .boolean)) (by decide +kernel) rfl rfl (Nat.le_of_ble_eq_true rfl) ?_
  intro p e s m below meth c F hr hlk hP hK ls hl
  have hl : lv_has ls 3 [(0, .ref (ad 12)), (1, .int x), (2, .int y)] := hl
  have hx := F.1
  have hb := F.2.1
  refine lv_aload_n hx hb d_Fo_has_0 rfl (lv_at hl 0 rfl) ?_
  refine gf_Fo_behind F hK hP d_Fo_has_1 ?_
  refine lv_iload_n hx hb d_Fo_has_4 rfl (lv_at hl 1 rfl) ?_
  refine ia_19 (j := j) F hK hP hj (by omega) d_Fo_has_5 ?_
  refine lv_iload_n hx hb d_Fo_has_6 rfl (lv_at hl 2 rfl) ?_
  refine x_Fo_hasBit F (tt3 112 rfl rfl) ⟨Nat.le_of_ble_eq_true rfl, Nat.le_of_ble_eq_true rfl⟩ hK hP hl.1 (Nat.le_of_ble_eq_true rfl) ⟨Nat.zero_le _, Nat.zero_le _⟩ d_Fo_has_7 ?_
  exact ok_zretR F hr hlk (fo_b_b) (rfl) d_Fo_has_10
theorem x_Fo_has {σ : oS} {x : Int32} {j : Nat} (hj : x = nI j) (hj9 : j < 5) {y : Int32} (F : CallFix p m c cc nL s args (cw :: tt) own) (hG : Cond.methodLink own index y_Fo_has ∈ tt) (hR : 1 + 1 ≤ R.frames ∧ 8 + (3 + 11) + 21 ≤ R.locals) (hK : va_K D vwCl (ot cI cL) s) (hP : va_P D vwCl (ow cI cL ad σ) H) (hsz : ls.size = nL) (hW : (rest.map fun v => v.category).sum ≤ 8) (hcs : cells ≤ R.cells ∧ slots ≤ R.slots) (hdg : decode cc pc = .ok (.invokevirtual index, 3)) (kk : W p l e R s m args below meth c H locs cells slots Q (F0 m (pc + 3) ls (.int (fo_b (σ 19 0 j) y) :: rest))) : W p l e R s m args below meth c H locs cells slots Q (F0 m pc ls (.int y :: .int x :: .ref (ad 12) :: rest)) :=
  ok_VR (As := [.int x, .int y]) F (c_Fo_has σ hj hj9) 2 (tt_V hG i_Fo_has l_Fo_has in9_Fo k_Fo_has) rfl ⟨rfl, rfl⟩ (by decide +kernel) hR hK hP (12) 4 rfl rfl ow_12 rfl hsz rfl hW hcs hdg kk
set_option maxHeartbeats 4000000 in
set_option maxRecDepth 100000 in
theorem c_Fo_add (σ : oS) {x : Int32} {j : Nat} (hj : x = nI j) (hj9 : j < 5) {y : Int32} : ok_MM l y_Fo_add (Cond.code y_Fo_add b_Fo_add 3 (some .int) :: tt) { frames := 0, cells := 0, slots := 0, locals := 0 } D vwCl (ot cI cL) (ow cI cL ad σ) (ow cI cL ad (u3 (u3 σ 19 0 j (σ 19 0 j ||| (1 <<< (y &&& 31)))) 20 0 0 (σ 20 0 0 + 1))) [.ref (ad 12), .int x, .int y] (some (.int (σ 20 0 0 + 1))) := by
  refine ok_startM (cc := b_Fo_add) (own := RFo) (maxL := 3) (ret := (some .int)) (by decide +kernel) rfl rfl (Nat.le_of_ble_eq_true rfl) ?_
  intro p e s m below meth c A F hr hlk hA hP hK hD hS ls hl
  have hl : lv_has ls 3 [(0, .ref (ad 12)), (1, .int x), (2, .int y)] := hl
  have hx := F.1
  have hb := F.2.1
  refine lv_aload_n hx hb d_Fo_add_0 rfl (lv_at hl 0 rfl) ?_
  refine gf_Fo_behind F hK hP d_Fo_add_1 ?_
  refine lv_iload_n hx hb d_Fo_add_4 rfl (lv_at hl 1 rfl) ?_
  refine lv_dup2_11 hx hb d_Fo_add_5 rfl rfl ?_
  refine ia_19 (j := j) F hK hP hj (by omega) d_Fo_add_6 ?_
  refine lv_iconst (v := 1) hx hb d_Fo_add_7 (by decide) ?_
  refine lv_iload_n hx hb d_Fo_add_8 rfl (lv_at hl 2 rfl) ?_
  refine lv_ishl hx hb d_Fo_add_9 ?_
  refine lv_ior hx hb d_Fo_add_10 ?_
  refine sa_19 (j := j) F hK hP hD hS hj (by omega) d_Fo_add_11 (fun H locs hP hD hS => ?_)
  refine lv_aload_n hx hb d_Fo_add_12 rfl (lv_at hl 0 rfl) ?_
  refine lv_dup hx hb d_Fo_add_13 rfl ?_
  refine gf_Fo_count F hK hP d_Fo_add_14 ?_
  refine lv_iconst (v := 1) hx hb d_Fo_add_17 (by decide) ?_
  refine lv_iadd hx hb d_Fo_add_18 ?_
  refine pf_Fo_count F hK hP hD hS d_Fo_add_19 (fun H locs hP hD hS => ?_)
  have ew : u3 (u3 σ 19 0 j ((σ 19 0 j) ||| (1 <<< (y &&& 31)))) 20 0 0 (((u3 σ 19 0 j ((σ 19 0 j) ||| (1 <<< (y &&& 31)))) 20 0 0) + 1) = u3 (u3 σ 19 0 j (σ 19 0 j ||| (1 <<< (y &&& 31)))) 20 0 0 (σ 20 0 0 + 1) := by congr 1
  rw [ew] at hP hD
  clear ew
  refine lv_aload_n hx hb d_Fo_add_22 rfl (lv_at hl 0 rfl) ?_
  refine gf_Fo_count F hK hP d_Fo_add_23 ?_
  exact ok_iretM F hr hlk hP hD hS (by rw [u3_s]) d_Fo_add_26
theorem x_Fo_add {σ : oS} {x : Int32} {j : Nat} (hj : x = nI j) (hj9 : j < 5) {y : Int32} (F : CallFix p m c cc nL s args (cw :: tt) own) (hG : Cond.methodLink own index y_Fo_add ∈ tt) (hR : 0 + 1 ≤ R.frames ∧ 8 + (3 + 11) + 0 ≤ R.locals) (hK : va_K D vwCl (ot cI cL) s) (hP : va_P D vwCl (ow cI cL ad σ) H) (hD : va_D A (ow cI cL ad σ)) (hS : va_S A H0 H locs) (hA : ∀ q, H0.size ≤ q → A q) (hsz : ls.size = nL) (hW : (rest.map fun v => v.category).sum ≤ 8) (hcs : cells ≤ R.cells ∧ slots ≤ R.slots) (hdg : decode cc pc = .ok (.invokevirtual index, 3)) (kk : ∀ (H1 : Heap) (locs1 : List Loc), va_P D vwCl (ow cI cL ad (u3 (u3 σ 19 0 j (σ 19 0 j ||| (1 <<< (y &&& 31)))) 20 0 0 (σ 20 0 0 + 1))) H1 → va_D A (ow cI cL ad (u3 (u3 σ 19 0 j (σ 19 0 j ||| (1 <<< (y &&& 31)))) 20 0 0 (σ 20 0 0 + 1))) → va_S A H0 H1 locs1 → W p l e R s m args below meth c H1 locs1 cells slots Q (F0 m (pc + 3) ls (.int (σ 20 0 0 + 1) :: rest))) : W p l e R s m args below meth c H locs cells slots Q (F0 m pc ls (.int y :: .int x :: .ref (ad 12) :: rest)) :=
  ok_VM (As := [.int x, .int y]) F (c_Fo_add σ hj hj9) 2 (tt_V hG i_Fo_add l_Fo_add in9_Fo k_Fo_add) rfl ⟨rfl, rfl⟩ (by decide +kernel) hR hK hP hD hS hA (12) 4 rfl rfl ow_12 rfl hsz rfl hW hcs hdg kk
theorem nI_dep {d : Nat} (h : d + 1 ≤ 5) : nI (5 - (d + 1)) + 1 = nI (5 - d) := by rw [nI_1, show 5 - (d + 1) + 1 = 5 - d by omega]
set_option maxHeartbeats 4000000 in
set_option maxRecDepth 100000 in
theorem c_Fo_longestFrom (σ : oS) {d : Nat} (hd : d ≤ 5) {a : Nat} (ha : a < 5) {y v : Int32} (hv : v = nI (5 - d)) : ok_MR l y_Fo_longestFrom (Cond.code y_Fo_longestFrom b_Fo_longestFrom 7 (some .int) :: tt) { frames := d, cells := 0, slots := 0, locals := 26 * d } D vwCl (ot cI cL) (ow cI cL ad σ) [.ref (ad 13), .int (nI a), .int y, .int v] (some (.int (fo_l σ d a y))) := by
  induction d generalizing a y v with
  | zero =>
    refine ok_startR (cc := b_Fo_longestFrom) (own := RFo) (maxL := 7) (ret := (some .int)) (by decide) rfl rfl (Nat.le_of_ble_eq_true rfl) ?_
    intro p e s m below meth c F hr hlk hP hK ls hl
    have hl : lv_has ls 7 [(0, .ref (ad 13)), (1, .int (nI a)), (2, .int y), (3, .int v)] := hl
    have hx := F.1
    have hb := F.2.1
    refine lv_iload_n hx hb d_Fo_longestFrom_0 rfl (lv_at hl 3 rfl) ?_
    refine lv_iconst (v := 5) hx hb d_Fo_longestFrom_1 (by decide) ?_
    refine lv_icmp_lt (tgt := 7) hx hb d_Fo_longestFrom_2 (by decide) (fun c1 => ?_) (fun c1 => ?_)
    · exact absurd c1 (by rw [hv]; decide)
    · refine lv_iconst (v := 0) hx hb d_Fo_longestFrom_5 (by decide) ?_
      exact ok_iretR F hr hlk (rfl) d_Fo_longestFrom_6
  | succ d ih =>
    refine ok_startR (cc := b_Fo_longestFrom) (own := RFo) (maxL := 7) (ret := (some .int)) (by decide) rfl rfl (Nat.le_of_ble_eq_true rfl) ?_
    intro p e s m below meth c F hr hlk hP hK ls hl
    have hl : lv_has ls 7 [(0, .ref (ad 13)), (1, .int (nI a)), (2, .int y), (3, .int v)] := hl
    have hx := F.1
    have hb := F.2.1
    have lp : ∀ (f k : Nat), k ≤ 5 → 5 - k < f → ∀ ls : Array Slot, lv_has ls 7 [(6, .int (nI k)), (5, .int (fo_s (fun b => fo_l σ d b (y ||| (1 <<< (nI a &&& 31)))) (σ 19 0 a &&& ((y ||| (1 <<< (nI a &&& 31))) ^^^ (-1))) k)), (4, .int (y ||| (1 <<< (nI a &&& 31)))), (0, .ref (ad 13)), (1, .int (nI a)), (2, .int y), (3, .int v)] → W p l e { frames := d + 1, cells := 0, slots := 0, locals := 26 * (d + 1) } s m ([.ref (ad 13), .int (nI a), .int y, .int v] : List Value).toArray below meth c s.heap [] 0 0 (MQ below (ok_R (some (.int (fo_l σ (d + 1) a y)))) ([.ref (ad 13), .int (nI a), .int y, .int v] : List Value).toArray s 0 0 (fun _ => False)) (F0 m 20 ls []) := by
      intro f
      induction f with
      | zero => intro k h1 h2; omega
      | succ f ihf =>
        intro k h1 h2 ls hl
        refine lv_iload hx hb d_Fo_longestFrom_20 (lv_at hl 0 rfl) ?_
        refine lv_iconst (v := 5) hx hb d_Fo_longestFrom_22 (by decide) ?_
        refine lv_icmp_ge (tgt := 66) hx hb d_Fo_longestFrom_23 (by decide) (fun c1 => ?_) (fun c1 => ?_)
        · have hkn : k = 5 := by
            rw [show (5 : Int32) = nI 5 from rfl, nI_leI (by omega) (by omega)] at c1; omega
          subst hkn
          refine lv_iload hx hb d_Fo_longestFrom_66 (lv_at hl 1 rfl) ?_
          refine lv_iconst (v := 1) hx hb d_Fo_longestFrom_68 (by decide) ?_
          refine lv_iadd hx hb d_Fo_longestFrom_69 ?_
          exact ok_iretR F hr hlk (rfl) d_Fo_longestFrom_70
        · have hkn : k < 5 := by
            rw [show (5 : Int32) = nI 5 from rfl, nI_leI (by omega) (by omega)] at c1; omega
          refine lv_aload_n hx hb d_Fo_longestFrom_26 rfl (lv_at hl 3 rfl) ?_
          refine lv_iload_n hx hb d_Fo_longestFrom_27 rfl (lv_at hl 4 rfl) ?_
          refine ia_19 (j := a) F hK hP rfl (by omega) d_Fo_longestFrom_28 ?_
          refine lv_iload hx hb d_Fo_longestFrom_29 (lv_at hl 2 rfl) ?_
          refine lv_iconst (v := -1) hx hb d_Fo_longestFrom_31 (by decide) ?_
          refine lv_ixor hx hb d_Fo_longestFrom_32 ?_
          refine lv_iand hx hb d_Fo_longestFrom_33 ?_
          refine lv_iload hx hb d_Fo_longestFrom_34 (lv_at hl 0 rfl) ?_
          refine x_Fo_hasBit F (tt3 112 rfl rfl) ⟨Nat.le_of_ble_eq_true rfl, Nat.le_of_ble_eq_true rfl⟩ hK hP hl.1 (Nat.le_of_ble_eq_true rfl) ⟨Nat.zero_le _, Nat.zero_le _⟩ d_Fo_longestFrom_36 ?_
          refine lv_if_eq (tgt := 60) hx hb d_Fo_longestFrom_39 (by decide) (fun c2 => ?_) (fun c2 => ?_)
          · refine lv_iinc (v := nI (k + 1)) (lv' := [(6, .int (nI (k + 1))), (5, .int (fo_s (fun b => fo_l σ d b (y ||| (1 <<< (nI a &&& 31)))) (σ 19 0 a &&& ((y ||| (1 <<< (nI a &&& 31))) ^^^ (-1))) k)), (4, .int (y ||| (1 <<< (nI a &&& 31)))), (0, .ref (ad 13)), (1, .int (nI a)), (2, .int y), (3, .int v)]) hx hb d_Fo_longestFrom_60 hl (k := 0) rfl (nI_inc _) (by decide) rfl (fun ls hl => ?_)
            refine lv_goto (tgt := 20) hx hb d_Fo_longestFrom_63 (by decide) ?_
            have e9 : fo_s (fun b => fo_l σ d b (y ||| (1 <<< (nI a &&& 31)))) (σ 19 0 a &&& ((y ||| (1 <<< (nI a &&& 31))) ^^^ (-1))) (k + 1) = fo_s (fun b => fo_l σ d b (y ||| (1 <<< (nI a &&& 31)))) (σ 19 0 a &&& ((y ||| (1 <<< (nI a &&& 31))) ^^^ (-1))) k := by
              rw [fo_s]; first | rw [if_pos c2] | rw [if_neg c2]
            exact ihf (k + 1) (by omega) (by omega) ls (by rw [e9]; exact (lv_sub hl [0, 1, 2, 3, 4, 5, 6] rfl))
          · refine lv_iload hx hb d_Fo_longestFrom_42 (lv_at hl 1 rfl) ?_
            refine lv_aload_n hx hb d_Fo_longestFrom_44 rfl (lv_at hl 3 rfl) ?_
            refine lv_iload hx hb d_Fo_longestFrom_45 (lv_at hl 0 rfl) ?_
            refine lv_iload hx hb d_Fo_longestFrom_47 (lv_at hl 2 rfl) ?_
            refine lv_iload_n hx hb d_Fo_longestFrom_49 rfl (lv_at hl 6 rfl) ?_
            refine lv_iconst (v := 1) hx hb d_Fo_longestFrom_50 (by decide) ?_
            refine lv_iadd hx hb d_Fo_longestFrom_51 ?_
            refine ok_SR (As := [.ref (ad 13), .int (nI k), .int (y ||| (1 <<< (nI a &&& 31))), .int (v + 1)]) F (ih (by omega) (by omega) (by rw [hv]; exact nI_dep (by omega))) 4 (tt_S (tt3 135 rfl rfl) s_Fo_longestFrom in9_Fo k_Fo_longestFrom) rfl ⟨rfl, rfl⟩ (by decide +kernel) ⟨Nat.le_refl _, by show 8 + (7 + 11) + 26 * d ≤ 26 * (d + 1); omega⟩ hK hP rfl hl.1 rfl (Nat.le_of_ble_eq_true rfl) ⟨Nat.zero_le _, Nat.zero_le _⟩ d_Fo_longestFrom_52 ?_
            refine ok_mmax F (List.mem_cons_of_mem _ (tt3 138 rfl rfl)) hl.1 (Nat.le_of_ble_eq_true rfl) (Nat.le_of_ble_eq_true rfl) (Nat.zero_le _) (Nat.zero_le _) d_Fo_longestFrom_55 ?_
            refine lv_istore (lv' := [(5, .int (if (fo_s (fun b => fo_l σ d b (y ||| (1 <<< (nI a &&& 31)))) (σ 19 0 a &&& ((y ||| (1 <<< (nI a &&& 31))) ^^^ (-1))) k) < (fo_l σ d k (y ||| (1 <<< (nI a &&& 31)))) then (fo_l σ d k (y ||| (1 <<< (nI a &&& 31)))) else (fo_s (fun b => fo_l σ d b (y ||| (1 <<< (nI a &&& 31)))) (σ 19 0 a &&& ((y ||| (1 <<< (nI a &&& 31))) ^^^ (-1))) k))), (6, .int (nI k)), (4, .int (y ||| (1 <<< (nI a &&& 31)))), (0, .ref (ad 13)), (1, .int (nI a)), (2, .int y), (3, .int v)]) hx hb d_Fo_longestFrom_58 hl (by decide) rfl (fun ls hl => ?_)
            refine lv_iinc (v := nI (k + 1)) (lv' := [(6, .int (nI (k + 1))), (5, .int (if (fo_s (fun b => fo_l σ d b (y ||| (1 <<< (nI a &&& 31)))) (σ 19 0 a &&& ((y ||| (1 <<< (nI a &&& 31))) ^^^ (-1))) k) < (fo_l σ d k (y ||| (1 <<< (nI a &&& 31)))) then (fo_l σ d k (y ||| (1 <<< (nI a &&& 31)))) else (fo_s (fun b => fo_l σ d b (y ||| (1 <<< (nI a &&& 31)))) (σ 19 0 a &&& ((y ||| (1 <<< (nI a &&& 31))) ^^^ (-1))) k))), (4, .int (y ||| (1 <<< (nI a &&& 31)))), (0, .ref (ad 13)), (1, .int (nI a)), (2, .int y), (3, .int v)]) hx hb d_Fo_longestFrom_60 hl (k := 1) rfl (nI_inc _) (by decide) rfl (fun ls hl => ?_)
            refine lv_goto (tgt := 20) hx hb d_Fo_longestFrom_63 (by decide) ?_
            have e9 : fo_s (fun b => fo_l σ d b (y ||| (1 <<< (nI a &&& 31)))) (σ 19 0 a &&& ((y ||| (1 <<< (nI a &&& 31))) ^^^ (-1))) (k + 1) = if (fo_s (fun b => fo_l σ d b (y ||| (1 <<< (nI a &&& 31)))) (σ 19 0 a &&& ((y ||| (1 <<< (nI a &&& 31))) ^^^ (-1))) k) < (fo_l σ d k (y ||| (1 <<< (nI a &&& 31)))) then (fo_l σ d k (y ||| (1 <<< (nI a &&& 31)))) else (fo_s (fun b => fo_l σ d b (y ||| (1 <<< (nI a &&& 31)))) (σ 19 0 a &&& ((y ||| (1 <<< (nI a &&& 31))) ^^^ (-1))) k) := by
              rw [fo_s]; first | rw [if_pos c2] | rw [if_neg c2]
            exact ihf (k + 1) (by omega) (by omega) ls (by rw [e9]; exact (lv_sub hl [0, 1, 2, 3, 4, 5, 6] rfl))
    refine lv_iload_n hx hb d_Fo_longestFrom_0 rfl (lv_at hl 3 rfl) ?_
    refine lv_iconst (v := 5) hx hb d_Fo_longestFrom_1 (by decide) ?_
    refine lv_icmp_lt (tgt := 7) hx hb d_Fo_longestFrom_2 (by decide) (fun c3 => ?_) (fun c3 => ?_)
    · refine lv_iload_n hx hb d_Fo_longestFrom_7 rfl (lv_at hl 2 rfl) ?_
      refine lv_iconst (v := 1) hx hb d_Fo_longestFrom_8 (by decide) ?_
      refine lv_iload_n hx hb d_Fo_longestFrom_9 rfl (lv_at hl 1 rfl) ?_
      refine lv_ishl hx hb d_Fo_longestFrom_10 ?_
      refine lv_ior hx hb d_Fo_longestFrom_11 ?_
      refine lv_istore (lv' := [(4, .int (y ||| (1 <<< ((nI a) &&& 31)))), (0, .ref (ad 13)), (1, .int (nI a)), (2, .int y), (3, .int v)]) hx hb d_Fo_longestFrom_12 hl (by decide) rfl (fun ls hl => ?_)
      refine lv_iconst (v := 0) hx hb d_Fo_longestFrom_14 (by decide) ?_
      refine lv_istore (lv' := [(5, .int 0), (4, .int (y ||| (1 <<< ((nI a) &&& 31)))), (0, .ref (ad 13)), (1, .int (nI a)), (2, .int y), (3, .int v)]) hx hb d_Fo_longestFrom_15 hl (by decide) rfl (fun ls hl => ?_)
      refine lv_iconst (v := 0) hx hb d_Fo_longestFrom_17 (by decide) ?_
      refine lv_istore (lv' := [(6, .int 0), (5, .int 0), (4, .int (y ||| (1 <<< ((nI a) &&& 31)))), (0, .ref (ad 13)), (1, .int (nI a)), (2, .int y), (3, .int v)]) hx hb d_Fo_longestFrom_18 hl (by decide) rfl (fun ls hl => ?_)
      exact lp 6 0 (by omega) (by omega) ls (lv_sub hl [0, 1, 2, 3, 4, 5, 6] rfl)
    · exact absurd (by rw [hv, show (5 : Int32) = nI 5 from rfl]; exact nI_lt (by omega) (by omega)) c3
set_option maxHeartbeats 4000000 in
set_option maxRecDepth 100000 in
theorem c_Fo_bestChoice (σ : oS) {x : Int32} {y : Int32} : ok_MR l y_Fo_bestChoice (Cond.code y_Fo_bestChoice b_Fo_bestChoice 7 (some .int) :: tt) { frames := 6, cells := 0, slots := 0, locals := 156 } D vwCl (ot cI cL) (ow cI cL ad σ) [.ref (ad 13), .int x, .int y] (some (.int ((fo_p σ x y 5).1))) := by
  refine ok_startR (cc := b_Fo_bestChoice) (own := RFo) (maxL := 7) (ret := (some .int)) (by decide +kernel) rfl rfl (Nat.le_of_ble_eq_true rfl) ?_
  intro p e s m below meth c F hr hlk hP hK ls hl
  have hl : lv_has ls 7 [(0, .ref (ad 13)), (1, .int x), (2, .int y)] := hl
  have hx := F.1
  have hb := F.2.1
  have lp : ∀ (f k : Nat), k ≤ 5 → 5 - k < f → ∀ ls : Array Slot, lv_has ls 7 [(5, .int (nI k)), (3, .int ((fo_p σ x y k).1)), (4, .int ((fo_p σ x y k).2)), (0, .ref (ad 13)), (1, .int x), (2, .int y)] → W p l e { frames := 6, cells := 0, slots := 0, locals := 156 } s m ([.ref (ad 13), .int x, .int y] : List Value).toArray below meth c s.heap [] 0 0 (MQ below (ok_R (some (.int ((fo_p σ x y 5).1)))) ([.ref (ad 13), .int x, .int y] : List Value).toArray s 0 0 (fun _ => False)) (F0 m 8 ls []) := by
    intro f
    induction f with
    | zero => intro k h1 h2; omega
    | succ f ih =>
      intro k h1 h2 ls hl
      refine lv_iload hx hb d_Fo_bestChoice_8 (lv_at hl 0 rfl) ?_
      refine lv_iconst (v := 5) hx hb d_Fo_bestChoice_10 (by decide) ?_
      refine lv_icmp_ge (tgt := 57) hx hb d_Fo_bestChoice_11 (by decide) (fun c1 => ?_) (fun c1 => ?_)
      · have hkn : k = 5 := by
          rw [show (5 : Int32) = nI 5 from rfl, nI_leI (by omega) (by omega)] at c1; omega
        subst hkn
        refine lv_iload_n hx hb d_Fo_bestChoice_57 rfl (lv_at hl 1 rfl) ?_
        exact ok_iretR F hr hlk (rfl) d_Fo_bestChoice_58
      · have hkn : k < 5 := by
          rw [show (5 : Int32) = nI 5 from rfl, nI_leI (by omega) (by omega)] at c1; omega
        refine lv_iload_n hx hb d_Fo_bestChoice_14 rfl (lv_at hl 4 rfl) ?_
        refine lv_iload hx hb d_Fo_bestChoice_15 (lv_at hl 0 rfl) ?_
        refine x_Fo_hasBit F (tt3 112 rfl rfl) ⟨Nat.le_of_ble_eq_true rfl, Nat.le_of_ble_eq_true rfl⟩ hK hP hl.1 (Nat.le_of_ble_eq_true rfl) ⟨Nat.zero_le _, Nat.zero_le _⟩ d_Fo_bestChoice_17 ?_
        refine lv_if_eq (tgt := 34) hx hb d_Fo_bestChoice_20 (by decide) (fun c2 => ?_) (fun c2 => ?_)
        · refine lv_iconst (v := 0) hx hb d_Fo_bestChoice_34 (by decide) ?_
          have e6 : fo_n σ x y k = 0 := by unfold fo_n; first | rw [if_pos c2] | rw [if_neg c2]
          rw [← e6]
          refine lv_istore (lv' := [(6, .int (fo_n σ x y k)), (5, .int (nI k)), (3, .int ((fo_p σ x y k).1)), (4, .int ((fo_p σ x y k).2)), (0, .ref (ad 13)), (1, .int x), (2, .int y)]) hx hb d_Fo_bestChoice_35 hl (by decide) rfl (fun ls hl => ?_)
          refine lv_iload hx hb d_Fo_bestChoice_37 (lv_at hl 0 rfl) ?_
          refine lv_iload hx hb d_Fo_bestChoice_39 (lv_at hl 3 rfl) ?_
          refine lv_icmp_le (tgt := 51) hx hb d_Fo_bestChoice_41 (by decide) (fun c3 => ?_) (fun c3 => ?_)
          · refine lv_iinc (v := nI (k + 1)) (lv' := [(5, .int (nI (k + 1))), (6, .int (fo_n σ x y k)), (3, .int ((fo_p σ x y k).1)), (4, .int ((fo_p σ x y k).2)), (0, .ref (ad 13)), (1, .int x), (2, .int y)]) hx hb d_Fo_bestChoice_51 hl (k := 1) rfl (nI_inc _) (by decide) rfl (fun ls hl => ?_)
            refine lv_goto (tgt := 8) hx hb d_Fo_bestChoice_54 (by decide) ?_
            have e9 : fo_p σ x y (k + 1) = fo_p σ x y k := by
              rw [fo_p]; first | rw [if_pos c3] | rw [if_neg c3]
            exact ih (k + 1) (by omega) (by omega) ls (by rw [e9]; exact (lv_sub hl [0, 2, 3, 4, 5, 6] rfl))
          · refine lv_iload hx hb d_Fo_bestChoice_44 (lv_at hl 0 rfl) ?_
            refine lv_istore (lv' := [(4, .int (fo_n σ x y k)), (6, .int (fo_n σ x y k)), (5, .int (nI k)), (3, .int ((fo_p σ x y k).1)), (0, .ref (ad 13)), (1, .int x), (2, .int y)]) hx hb d_Fo_bestChoice_46 hl (by decide) rfl (fun ls hl => ?_)
            refine lv_iload hx hb d_Fo_bestChoice_48 (lv_at hl 2 rfl) ?_
            refine lv_istore_n (lv' := [(3, .int (nI k)), (4, .int (fo_n σ x y k)), (6, .int (fo_n σ x y k)), (5, .int (nI k)), (0, .ref (ad 13)), (1, .int x), (2, .int y)]) hx hb d_Fo_bestChoice_50 rfl hl (by decide) rfl (fun ls hl => ?_)
            refine lv_iinc (v := nI (k + 1)) (lv' := [(5, .int (nI (k + 1))), (3, .int (nI k)), (4, .int (fo_n σ x y k)), (6, .int (fo_n σ x y k)), (0, .ref (ad 13)), (1, .int x), (2, .int y)]) hx hb d_Fo_bestChoice_51 hl (k := 3) rfl (nI_inc _) (by decide) rfl (fun ls hl => ?_)
            refine lv_goto (tgt := 8) hx hb d_Fo_bestChoice_54 (by decide) ?_
            have e9 : fo_p σ x y (k + 1) = (nI k, fo_n σ x y k) := by
              rw [fo_p]; first | rw [if_pos c3] | rw [if_neg c3]
            exact ih (k + 1) (by omega) (by omega) ls (by rw [e9]; exact (lv_sub hl [0, 1, 2, 4, 5, 6] rfl))
        · refine lv_aload_n hx hb d_Fo_bestChoice_23 rfl (lv_at hl 3 rfl) ?_
          refine lv_iload hx hb d_Fo_bestChoice_24 (lv_at hl 0 rfl) ?_
          refine lv_iload_n hx hb d_Fo_bestChoice_26 rfl (lv_at hl 5 rfl) ?_
          refine lv_iconst (v := 0) hx hb d_Fo_bestChoice_27 (by decide) ?_
          refine ok_SR (As := [.ref (ad 13), .int (nI k), .int y, .int 0]) F (c_Fo_longestFrom σ (d := 5) (by omega) (by omega) (by decide)) 4 (tt_S (tt3 135 rfl rfl) s_Fo_longestFrom in9_Fo k_Fo_longestFrom) rfl ⟨rfl, rfl⟩ (by decide +kernel) ⟨Nat.le_of_ble_eq_true rfl, Nat.le_of_ble_eq_true rfl⟩ hK hP rfl hl.1 rfl (Nat.le_of_ble_eq_true rfl) ⟨Nat.zero_le _, Nat.zero_le _⟩ d_Fo_bestChoice_28 ?_
          refine lv_goto (tgt := 35) hx hb d_Fo_bestChoice_31 (by decide) ?_
          have e6 : fo_n σ x y k = fo_l σ 5 k y := by unfold fo_n; first | rw [if_pos c2] | rw [if_neg c2]
          rw [← e6]
          refine lv_istore (lv' := [(6, .int (fo_n σ x y k)), (5, .int (nI k)), (3, .int ((fo_p σ x y k).1)), (4, .int ((fo_p σ x y k).2)), (0, .ref (ad 13)), (1, .int x), (2, .int y)]) hx hb d_Fo_bestChoice_35 hl (by decide) rfl (fun ls hl => ?_)
          refine lv_iload hx hb d_Fo_bestChoice_37 (lv_at hl 0 rfl) ?_
          refine lv_iload hx hb d_Fo_bestChoice_39 (lv_at hl 3 rfl) ?_
          refine lv_icmp_le (tgt := 51) hx hb d_Fo_bestChoice_41 (by decide) (fun c4 => ?_) (fun c4 => ?_)
          · refine lv_iinc (v := nI (k + 1)) (lv' := [(5, .int (nI (k + 1))), (6, .int (fo_n σ x y k)), (3, .int ((fo_p σ x y k).1)), (4, .int ((fo_p σ x y k).2)), (0, .ref (ad 13)), (1, .int x), (2, .int y)]) hx hb d_Fo_bestChoice_51 hl (k := 1) rfl (nI_inc _) (by decide) rfl (fun ls hl => ?_)
            refine lv_goto (tgt := 8) hx hb d_Fo_bestChoice_54 (by decide) ?_
            have e9 : fo_p σ x y (k + 1) = fo_p σ x y k := by
              rw [fo_p]; first | rw [if_pos c4] | rw [if_neg c4]
            exact ih (k + 1) (by omega) (by omega) ls (by rw [e9]; exact (lv_sub hl [0, 2, 3, 4, 5, 6] rfl))
          · refine lv_iload hx hb d_Fo_bestChoice_44 (lv_at hl 0 rfl) ?_
            refine lv_istore (lv' := [(4, .int (fo_n σ x y k)), (6, .int (fo_n σ x y k)), (5, .int (nI k)), (3, .int ((fo_p σ x y k).1)), (0, .ref (ad 13)), (1, .int x), (2, .int y)]) hx hb d_Fo_bestChoice_46 hl (by decide) rfl (fun ls hl => ?_)
            refine lv_iload hx hb d_Fo_bestChoice_48 (lv_at hl 2 rfl) ?_
            refine lv_istore_n (lv' := [(3, .int (nI k)), (4, .int (fo_n σ x y k)), (6, .int (fo_n σ x y k)), (5, .int (nI k)), (0, .ref (ad 13)), (1, .int x), (2, .int y)]) hx hb d_Fo_bestChoice_50 rfl hl (by decide) rfl (fun ls hl => ?_)
            refine lv_iinc (v := nI (k + 1)) (lv' := [(5, .int (nI (k + 1))), (3, .int (nI k)), (4, .int (fo_n σ x y k)), (6, .int (fo_n σ x y k)), (0, .ref (ad 13)), (1, .int x), (2, .int y)]) hx hb d_Fo_bestChoice_51 hl (k := 3) rfl (nI_inc _) (by decide) rfl (fun ls hl => ?_)
            refine lv_goto (tgt := 8) hx hb d_Fo_bestChoice_54 (by decide) ?_
            have e9 : fo_p σ x y (k + 1) = (nI k, fo_n σ x y k) := by
              rw [fo_p]; first | rw [if_pos c4] | rw [if_neg c4]
            exact ih (k + 1) (by omega) (by omega) ls (by rw [e9]; exact (lv_sub hl [0, 1, 2, 4, 5, 6] rfl))
  refine lv_iconst (v := -1) hx hb d_Fo_bestChoice_0 (by decide) ?_
  refine lv_istore_n (lv' := [(3, .int (-1)), (0, .ref (ad 13)), (1, .int x), (2, .int y)]) hx hb d_Fo_bestChoice_1 rfl hl (by decide) rfl (fun ls hl => ?_)
  refine lv_iconst (v := 0) hx hb d_Fo_bestChoice_2 (by decide) ?_
  refine lv_istore (lv' := [(4, .int 0), (3, .int (-1)), (0, .ref (ad 13)), (1, .int x), (2, .int y)]) hx hb d_Fo_bestChoice_3 hl (by decide) rfl (fun ls hl => ?_)
  refine lv_iconst (v := 0) hx hb d_Fo_bestChoice_5 (by decide) ?_
  refine lv_istore (lv' := [(5, .int 0), (4, .int 0), (3, .int (-1)), (0, .ref (ad 13)), (1, .int x), (2, .int y)]) hx hb d_Fo_bestChoice_6 hl (by decide) rfl (fun ls hl => ?_)
  exact lp 6 0 (by omega) (by omega) ls (lv_sub hl [0, 2, 1, 3, 4, 5] rfl)
theorem x_Fo_bestChoice {σ : oS} {x : Int32} {y : Int32} (F : CallFix p m c cc nL s args (cw :: tt) RFo) (hG : Cond.methodLink RFo index y_Fo_bestChoice ∈ tt) (hR : 6 + 1 ≤ R.frames ∧ 8 + (7 + 11) + 156 ≤ R.locals) (hK : va_K D vwCl (ot cI cL) s) (hP : va_P D vwCl (ow cI cL ad σ) H) (hsz : ls.size = nL) (hW : (rest.map fun v => v.category).sum ≤ 8) (hcs : cells ≤ R.cells ∧ slots ≤ R.slots) (hdg : decode cc pc = .ok (.invokestatic index, 3)) (kk : W p l e R s m args below meth c H locs cells slots Q (F0 m (pc + 3) ls (.int ((fo_p σ x y 5).1) :: rest))) : W p l e R s m args below meth c H locs cells slots Q (F0 m pc ls (.int y :: .int x :: .ref (ad 13) :: rest)) :=
  ok_SR (As := [.ref (ad 13), .int x, .int y]) F (c_Fo_bestChoice σ) 3 (tt_S hG s_Fo_bestChoice in9_Fo k_Fo_bestChoice) rfl ⟨rfl, rfl⟩ (by decide +kernel) hR hK hP rfl hsz rfl hW hcs hdg kk
set_option maxHeartbeats 4000000 in
set_option maxRecDepth 100000 in
theorem c_Fo_longestAt (σ : oS) {x : Int32} {k : Nat} (hk : x = nI k) (hk9 : k < 2147483648) {y : Int32} {n : Nat} (hn : y = nI n) (hn9 : n < 6) : ok_MR l y_Fo_longestAt (Cond.code y_Fo_longestAt b_Fo_longestAt 7 (some .int) :: tt) { frames := 7, cells := 0, slots := 0, locals := 182 } D vwCl (ot cI cL) (ow cI cL ad σ) [.ref (ad 12), .int x, .int y] (some (.int (if n ≤ k then -1 else fo_a σ (k + 1) 0 ((1 <<< (y &&& 31)) - 1) (-1)))) := by
  refine ok_startR (cc := b_Fo_longestAt) (own := RFo) (maxL := 7) (ret := (some .int)) (by decide +kernel) rfl rfl (Nat.le_of_ble_eq_true rfl) ?_
  intro p e s m below meth c F hr hlk hP hK ls hl
  have hl : lv_has ls 7 [(0, .ref (ad 12)), (1, .int x), (2, .int y)] := hl
  have hx := F.1
  have hb := F.2.1
  have lp : k < n → ∀ (f t : Nat), t ≤ k + 1 → k + 1 - t < f → ∀ us cs cv : Int32, (if n ≤ k then -1 else fo_a σ (k + 1) 0 ((1 <<< (y &&& 31)) - 1) (-1)) = fo_a σ (k + 1 - t) us cs cv → ∀ ls : Array Slot, lv_has ls 7 [(6, .int (nI t)), (5, .int cv), (4, .int cs), (3, .int us), (0, .ref (ad 12)), (1, .int x), (2, .int y)] → W p l e { frames := 7, cells := 0, slots := 0, locals := 182 } s m ([.ref (ad 12), .int x, .int y] : List Value).toArray below meth c s.heap [] 0 0 (MQ below (ok_R (some (.int (if n ≤ k then -1 else fo_a σ (k + 1) 0 ((1 <<< (y &&& 31)) - 1) (-1))))) ([.ref (ad 12), .int x, .int y] : List Value).toArray s 0 0 (fun _ => False)) (F0 m 22 ls []) := by
    intro hkn f
    induction f with
    | zero => intro t h1 h2; omega
    | succ f ih =>
      intro t h1 h2 us cs cv heq ls hl
      refine lv_iload hx hb d_Fo_longestAt_22 (lv_at hl 0 rfl) ?_
      refine lv_iload_n hx hb d_Fo_longestAt_24 rfl (lv_at hl 5 rfl) ?_
      refine lv_icmp_gt (tgt := 73) hx hb d_Fo_longestAt_25 (by decide) (fun c1 => ?_) (fun c1 => ?_)
      · have ht : t = k + 1 := by
          rw [hk] at c1
          have := (nI_ltI (by omega) (by omega)).mp c1; omega
        subst ht
        rw [Nat.sub_self] at heq
        refine lv_iload hx hb d_Fo_longestAt_73 (lv_at hl 1 rfl) ?_
        exact ok_iretR F hr hlk (by rw [heq]; rfl) d_Fo_longestAt_75
      · have ht : t < k + 1 := by
          rw [hk] at c1
          have q9 : ¬ k < t := fun q => c1 (nI_lt q (by omega))
          omega
        rw [show k + 1 - t = (k + 1 - (t + 1)) + 1 by omega] at heq
        refine lv_aload_n hx hb d_Fo_longestAt_28 rfl (lv_at hl 4 rfl) ?_
        refine gf_Fo_behind F hK hP d_Fo_longestAt_29 ?_
        refine lv_iload hx hb d_Fo_longestAt_32 (lv_at hl 2 rfl) ?_
        refine lv_iload_n hx hb d_Fo_longestAt_34 rfl (lv_at hl 3 rfl) ?_
        refine x_Fo_bestChoice F (tt3 132 rfl rfl) ⟨Nat.le_of_ble_eq_true rfl, Nat.le_of_ble_eq_true rfl⟩ hK hP hl.1 (Nat.le_of_ble_eq_true rfl) ⟨Nat.zero_le _, Nat.zero_le _⟩ d_Fo_longestAt_35 ?_
        refine lv_istore (lv' := [(5, .int ((fo_p σ cs us 5).1)), (6, .int (nI t)), (4, .int cs), (3, .int us), (0, .ref (ad 12)), (1, .int x), (2, .int y)]) hx hb d_Fo_longestAt_38 hl (by decide) rfl (fun ls hl => ?_)
        refine lv_iload hx hb d_Fo_longestAt_40 (lv_at hl 0 rfl) ?_
        refine lv_if_ge (tgt := 47) hx hb d_Fo_longestAt_42 (by decide) (fun c2 => ?_) (fun c2 => ?_)
        · obtain ⟨b, hb5, hbc⟩ : ∃ b, b < 5 ∧ (fo_p σ cs us 5).1 = nI b := by
            rcases fo_p_1 (σ := σ) (cs := cs) (us := us) (m := 5) with h | h
            · rw [h] at c2; exact absurd c2 (by decide)
            · exact h
          have hbn : (fo_p σ cs us 5).1.toNatClampNeg = b := by rw [hbc]; exact nI_clamp (by omega)
          have heq2 := heq.trans (show fo_a σ (k + 1 - (t + 1) + 1) us cs cv = _ by rw [fo_a, if_neg (fun q => absurd c2 (Int32.not_le.mpr q)), hbn])
          refine lv_iload_n hx hb d_Fo_longestAt_47 rfl (lv_at hl 3 rfl) ?_
          refine lv_iconst (v := 1) hx hb d_Fo_longestAt_48 (by decide) ?_
          refine lv_iload hx hb d_Fo_longestAt_49 (lv_at hl 0 rfl) ?_
          refine lv_ishl hx hb d_Fo_longestAt_51 ?_
          refine lv_ior hx hb d_Fo_longestAt_52 ?_
          refine lv_istore_n (lv' := [(3, .int (us ||| (1 <<< (((fo_p σ cs us 5).1) &&& 31)))), (5, .int ((fo_p σ cs us 5).1)), (6, .int (nI t)), (4, .int cs), (0, .ref (ad 12)), (1, .int x), (2, .int y)]) hx hb d_Fo_longestAt_53 rfl hl (by decide) rfl (fun ls hl => ?_)
          refine lv_aload_n hx hb d_Fo_longestAt_54 rfl (lv_at hl 4 rfl) ?_
          refine gf_Fo_behind F hK hP d_Fo_longestAt_55 ?_
          refine lv_iload hx hb d_Fo_longestAt_58 (lv_at hl 1 rfl) ?_
          refine ia_19 (j := b) F hK hP hbc (by omega) d_Fo_longestAt_60 ?_
          refine lv_iload_n hx hb d_Fo_longestAt_61 rfl (lv_at hl 0 rfl) ?_
          refine lv_iconst (v := -1) hx hb d_Fo_longestAt_62 (by decide) ?_
          refine lv_ixor hx hb d_Fo_longestAt_63 ?_
          refine lv_iand hx hb d_Fo_longestAt_64 ?_
          refine lv_istore (lv' := [(4, .int ((σ 19 0 b) &&& ((us ||| (1 <<< (((fo_p σ cs us 5).1) &&& 31))) ^^^ (-1)))), (3, .int (us ||| (1 <<< (((fo_p σ cs us 5).1) &&& 31)))), (5, .int ((fo_p σ cs us 5).1)), (6, .int (nI t)), (0, .ref (ad 12)), (1, .int x), (2, .int y)]) hx hb d_Fo_longestAt_65 hl (by decide) rfl (fun ls hl => ?_)
          refine lv_iinc (v := nI (t + 1)) (lv' := [(6, .int (nI (t + 1))), (4, .int ((σ 19 0 b) &&& ((us ||| (1 <<< (((fo_p σ cs us 5).1) &&& 31))) ^^^ (-1)))), (3, .int (us ||| (1 <<< (((fo_p σ cs us 5).1) &&& 31)))), (5, .int ((fo_p σ cs us 5).1)), (0, .ref (ad 12)), (1, .int x), (2, .int y)]) hx hb d_Fo_longestAt_67 hl (k := 3) rfl (nI_inc _) (by decide) rfl (fun ls hl => ?_)
          refine lv_goto (tgt := 22) hx hb d_Fo_longestAt_70 (by decide) ?_
          exact ih (t + 1) (by omega) (by omega) _ _ _ heq2 ls (lv_sub hl [0, 3, 1, 2, 4, 5, 6] rfl)
        · refine lv_iconst (v := -1) hx hb d_Fo_longestAt_45 (by decide) ?_
          exact ok_iretR F hr hlk (by rw [heq, fo_a, if_pos (Int32.not_le.mp c2)]) d_Fo_longestAt_46
  refine lv_iload_n hx hb d_Fo_longestAt_0 rfl (lv_at hl 1 rfl) ?_
  refine lv_iload_n hx hb d_Fo_longestAt_1 rfl (lv_at hl 2 rfl) ?_
  refine lv_icmp_lt (tgt := 7) hx hb d_Fo_longestAt_2 (by decide) (fun c3 => ?_) (fun c3 => ?_)
  · have hkn : k < n := by
      rw [hk, hn, nI_ltI (by omega) (by omega)] at c3; omega
    refine lv_iconst (v := 0) hx hb d_Fo_longestAt_7 (by decide) ?_
    refine lv_istore_n (lv' := [(3, .int 0), (0, .ref (ad 12)), (1, .int x), (2, .int y)]) hx hb d_Fo_longestAt_8 rfl hl (by decide) rfl (fun ls hl => ?_)
    refine lv_iconst (v := 1) hx hb d_Fo_longestAt_9 (by decide) ?_
    refine lv_iload_n hx hb d_Fo_longestAt_10 rfl (lv_at hl 3 rfl) ?_
    refine lv_ishl hx hb d_Fo_longestAt_11 ?_
    refine lv_iconst (v := 1) hx hb d_Fo_longestAt_12 (by decide) ?_
    refine lv_isub hx hb d_Fo_longestAt_13 ?_
    refine lv_istore (lv' := [(4, .int ((1 <<< (y &&& 31)) - 1)), (3, .int 0), (0, .ref (ad 12)), (1, .int x), (2, .int y)]) hx hb d_Fo_longestAt_14 hl (by decide) rfl (fun ls hl => ?_)
    refine lv_iconst (v := -1) hx hb d_Fo_longestAt_16 (by decide) ?_
    refine lv_istore (lv' := [(5, .int (-1)), (4, .int ((1 <<< (y &&& 31)) - 1)), (3, .int 0), (0, .ref (ad 12)), (1, .int x), (2, .int y)]) hx hb d_Fo_longestAt_17 hl (by decide) rfl (fun ls hl => ?_)
    refine lv_iconst (v := 0) hx hb d_Fo_longestAt_19 (by decide) ?_
    refine lv_istore (lv' := [(6, .int 0), (5, .int (-1)), (4, .int ((1 <<< (y &&& 31)) - 1)), (3, .int 0), (0, .ref (ad 12)), (1, .int x), (2, .int y)]) hx hb d_Fo_longestAt_20 hl (by decide) rfl (fun ls hl => ?_)
    exact lp (by omega) (k + 2) 0 (by omega) (by omega) _ _ _ (by rw [if_neg (by omega)]; rfl) ls (lv_sub hl [0, 1, 2, 3, 4, 5, 6] rfl)
  · have hkn : n ≤ k := by
      rw [hk, hn, nI_ltI (by omega) (by omega)] at c3; omega
    refine lv_iconst (v := -1) hx hb d_Fo_longestAt_5 (by decide) ?_
    exact ok_iretR F hr hlk (by rw [if_pos (by omega)]) d_Fo_longestAt_6
theorem x_Fo_longestAt {σ : oS} {x : Int32} {k : Nat} (hk : x = nI k) (hk9 : k < 2147483648) {y : Int32} {n : Nat} (hn : y = nI n) (hn9 : n < 6) (F : CallFix p m c cc nL s args (cw :: tt) own) (hG : Cond.methodLink own index y_Fo_longestAt ∈ tt) (hR : 7 + 1 ≤ R.frames ∧ 8 + (7 + 11) + 182 ≤ R.locals) (hK : va_K D vwCl (ot cI cL) s) (hP : va_P D vwCl (ow cI cL ad σ) H) (hsz : ls.size = nL) (hW : (rest.map fun v => v.category).sum ≤ 8) (hcs : cells ≤ R.cells ∧ slots ≤ R.slots) (hdg : decode cc pc = .ok (.invokevirtual index, 3)) (kk : W p l e R s m args below meth c H locs cells slots Q (F0 m (pc + 3) ls (.int (if n ≤ k then -1 else fo_a σ (k + 1) 0 ((1 <<< (y &&& 31)) - 1) (-1)) :: rest))) : W p l e R s m args below meth c H locs cells slots Q (F0 m pc ls (.int y :: .int x :: .ref (ad 12) :: rest)) :=
  ok_VR (As := [.int x, .int y]) F (c_Fo_longestAt σ hk hk9 hn hn9) 2 (tt_V hG i_Fo_longestAt l_Fo_longestAt in9_Fo k_Fo_longestAt) rfl ⟨rfl, rfl⟩ (by decide +kernel) hR hK hP (12) 4 rfl rfl ow_12 rfl hsz rfl hW hcs hdg kk
end
