-- chains of the reference
theorem mi_rem {R : Nat} (h : R < 2 ^ 31) : nI R - nI R / 5 * 5 = nI (R % 5) := pk_rem (d := 5) h (by decide) (by decide)
theorem mi_div {R : Nat} (h : R < 2 ^ 31) : nI R / 5 = nI (R / 5) := pk_div (d := 5) h (by decide) (by decide)
def mi_l (n m : Nat) : Nat → Nat → Int32 → oS → oS × Int32
  | 0, _, _, τ => (τ, 1)
  | d + 1, R, y, τ =>
    if n ≤ R % 5 then (τ, 0) else
    if (y >>> (nI (R % 5) &&& 31)) &&& 1 = 1 then (τ, 0) else
    if d + 1 < m ∧ τ 18 0 (5 * (R % 5) + (τ 22 0 (d + 1)).toNatClampNeg) = 0 then (τ, 0) else
    mi_l n m d (R / 5) (y ||| (1 <<< (nI (R % 5) &&& 31))) (u3 τ 22 0 d (nI (R % 5)))
theorem mi_l_c {n m d R c : Nat} {y : Int32} {τ : oS} (h : c ≠ 22) : (mi_l n m d R y τ).1 c = τ c := by
  induction d generalizing R y τ with
  | zero => rfl
  | succ d ih =>
    rw [mi_l]
    split
    · rfl
    · split
      · rfl
      · split
        · rfl
        · rw [ih, u3_c h]
def mh_c (n m : Nat) : Nat → Nat → oS → oS × Bool
  | 0, _, τ => (τ, false)
  | f + 1, c, τ => if (mi_l n m m c 0 τ).2 = 0 then mh_c n m f (c + 1) (mi_l n m m c 0 τ).1 else ((mi_l n m m c 0 τ).1, true)
theorem mh_c_c {n m f k c : Nat} {τ : oS} (h : c ≠ 22) : (mh_c n m f k τ).1 c = τ c := by
  induction f generalizing k τ with
  | zero => rfl
  | succ f ih =>
    rw [mh_c]
    split
    · rw [ih, mi_l_c h]
    · exact mi_l_c h
def mh_n (n k : Nat) : Nat → oS → oS × Int32
  | 0, τ => (τ, -1)
  | m + 1, τ => if (mh_c n (m + 1) (5 ^ (m + 1)) 0 τ).2 = true then ((mh_c n (m + 1) (5 ^ (m + 1)) 0 τ).1, if m + 1 ≤ k then -1 else (mh_c n (m + 1) (5 ^ (m + 1)) 0 τ).1 22 0 k)
    else mh_n n k m (mh_c n (m + 1) (5 ^ (m + 1)) 0 τ).1
section
variable {l : Launch} {D : va_G} {cI cZ : ClassId} {ad : Nat → Nat}
variable {p : Program} {e : Env} {R : Room} {s : State} {m : MethodId} {args : Array Value} {below : List Frame} {meth : Method} {c : Code} {H : Heap} {locs : List Loc} {cells slots : Nat} {Q : State → Prop} {cc : ByteArray} {pc nL index : Nat} {ls : Array Slot} {rest : List Value} {A : Nat → Prop} {H0 : Heap} {cw : Cond} {own : String}
set_option maxHeartbeats 4000000 in
set_option maxRecDepth 100000 in
theorem c_Mo_isChain (σ : oS) {n : Nat} (hn : σ 1 0 0 = nI n) (hn9 : n ≤ 5) {x : Int32} {R0 : Nat} (hR0 : x = nI R0) (hR09 : R0 < 3125) {y : Int32} {m0 : Nat} (hm0 : y = nI m0) (hm09 : m0 < 6) : ok_MM l y_Mo_isChain (Cond.code y_Mo_isChain b_Mo_isChain 7 (some .boolean) :: tt) { frames := 0, cells := 0, slots := 0, locals := 0 } D vwCl (mt cI cZ) (mw cI cZ ad σ) (mw cI cZ ad ((mi_l n m0 m0 R0 0 σ).1)) [.ref (ad 0), .int x, .int y] (some (.int (mi_l n m0 m0 R0 0 σ).2)) := by
  refine ok_startM (cc := b_Mo_isChain) (own := RMo) (maxL := 7) (ret := (some .boolean)) (by decide +kernel) rfl rfl (Nat.le_of_ble_eq_true rfl) ?_
  intro p e s m below meth c A F hr hlk hA hP hK hD hS ls hl
  have hl : lv_has ls 7 [(0, .ref (ad 0)), (1, .int x), (2, .int y)] := hl
  have hx := F.1
  have hb := F.2.1
  have lp : ∀ (d R : Nat) (sn v : Int32) (τ : oS), d ≤ m0 → R < 3125 → v = nI d - 1 → τ 1 0 0 = nI n → (∀ e9, d ≤ e9 → e9 < m0 → τ 22 0 e9 = nI (τ 22 0 e9).toNatClampNeg ∧ (τ 22 0 e9).toNatClampNeg < 5) → mi_l n m0 m0 R0 0 σ = mi_l n m0 d R sn τ → ∀ (H : Heap) (locs : List Loc), va_P D vwCl (mw cI cZ ad τ) H → va_D A (mw cI cZ ad τ) → va_S A s.heap H locs → ∀ ls : Array Slot, lv_has ls 7 [(5, .int v), (4, .int sn), (3, .int (nI R)), (0, .ref (ad 0)), (1, .int x), (2, .int y)] → W p l e { frames := 0, cells := 0, slots := 0, locals := 0 } s m ([.ref (ad 0), .int x, .int y] : List Value).toArray below meth c H locs 0 0 (MQ below (ok_qA D vwCl A (mw cI cZ ad ((mi_l n m0 m0 R0 0 σ).1)) (some (.int (mi_l n m0 m0 R0 0 σ).2))) ([.ref (ad 0), .int x, .int y] : List Value).toArray s 0 0 A) (F0 m 10 ls []) := by
    intro d
    induction d with
    | zero =>
      intro R sn v τ hd hR hv h1 h22 heq H locs hP hD hS ls hl
      rw [mi_l] at heq
      refine lv_iload hx hb d_Mo_isChain_10 (lv_at hl 0 rfl) ?_
      refine lv_if_lt (tgt := 100) hx hb d_Mo_isChain_12 (by decide) (fun c1 => ?_) (fun c1 => ?_)
      · refine lv_iconst (v := 1) hx hb d_Mo_isChain_100 (by decide) ?_
        exact ok_zretM F hr hlk (by rw [heq]; exact hP) (by rw [heq]; exact hD) hS (by rfl) (by rw [heq]) d_Mo_isChain_101
      · exact absurd (by rw [hv]; decide) c1
    | succ d ih =>
      intro R sn v τ hd hR hv h1 h22 heq H locs hP hD hS ls hl
      rw [nI_pred] at hv
      rw [mi_l] at heq
      refine lv_iload hx hb d_Mo_isChain_10 (lv_at hl 0 rfl) ?_
      refine lv_if_lt (tgt := 100) hx hb d_Mo_isChain_12 (by decide) (fun c2 => ?_) (fun c2 => ?_)
      · exact absurd c2 (by rw [hv]; exact nI_pos (by omega))
      · refine lv_iload_n hx hb d_Mo_isChain_15 rfl (lv_at hl 2 rfl) ?_
        refine lv_iconst (v := 5) hx hb d_Mo_isChain_16 (by decide) ?_
        refine lv_irem hx hb d_Mo_isChain_17 (by decide) ?_
        rw [mi_rem (by omega)]
        refine lv_istore (lv' := [(6, .int (nI (R % 5))), (5, .int v), (4, .int sn), (3, .int (nI R)), (0, .ref (ad 0)), (1, .int x), (2, .int y)]) hx hb d_Mo_isChain_18 hl (by decide) rfl (fun ls hl => ?_)
        refine lv_iload_n hx hb d_Mo_isChain_20 rfl (lv_at hl 3 rfl) ?_
        refine lv_iconst (v := 5) hx hb d_Mo_isChain_21 (by decide) ?_
        refine lv_idiv hx hb d_Mo_isChain_22 (by decide) ?_
        rw [mi_div (by omega)]
        refine lv_istore_n (lv' := [(3, .int (nI (R / 5))), (6, .int (nI (R % 5))), (5, .int v), (4, .int sn), (0, .ref (ad 0)), (1, .int x), (2, .int y)]) hx hb d_Mo_isChain_23 rfl hl (by decide) rfl (fun ls hl => ?_)
        refine lv_iload hx hb d_Mo_isChain_24 (lv_at hl 1 rfl) ?_
        refine lv_aload_n hx hb d_Mo_isChain_26 rfl (lv_at hl 4 rfl) ?_
        refine gf_Mo_columns F hK hP d_Mo_isChain_27 ?_
        refine lv_icmp_ge (tgt := 74) hx hb d_Mo_isChain_30 (by decide) (fun c3 => ?_) (fun c3 => ?_)
        · have hc : n ≤ R % 5 := by
            rw [h1, nI_leI (by omega) (by omega)] at c3; omega
          rw [if_pos hc] at heq
          refine lv_iconst (v := 0) hx hb d_Mo_isChain_74 (by decide) ?_
          exact ok_zretM F hr hlk (by rw [heq]; exact hP) (by rw [heq]; exact hD) hS (by rfl) (by rw [heq]) d_Mo_isChain_75
        · have hc : R % 5 < n := by
            rw [h1, nI_leI (by omega) (by omega)] at c3; omega
          refine lv_iload hx hb d_Mo_isChain_33 (lv_at hl 3 rfl) ?_
          refine lv_iload hx hb d_Mo_isChain_35 (lv_at hl 1 rfl) ?_
          refine lv_ishr hx hb d_Mo_isChain_37 ?_
          refine lv_iconst (v := 1) hx hb d_Mo_isChain_38 (by decide) ?_
          refine lv_iand hx hb d_Mo_isChain_39 ?_
          refine lv_iconst (v := 1) hx hb d_Mo_isChain_40 (by decide) ?_
          refine lv_icmp_eq (tgt := 74) hx hb d_Mo_isChain_41 (by decide) (fun c4 => ?_) (fun c4 => ?_)
          · rw [if_neg (by omega), if_pos c4] at heq
            refine lv_iconst (v := 0) hx hb d_Mo_isChain_74 (by decide) ?_
            exact ok_zretM F hr hlk (by rw [heq]; exact hP) (by rw [heq]; exact hD) hS (by rfl) (by rw [heq]) d_Mo_isChain_75
          · refine lv_iload hx hb d_Mo_isChain_44 (lv_at hl 2 rfl) ?_
            refine lv_iload_n hx hb d_Mo_isChain_46 rfl (lv_at hl 6 rfl) ?_
            refine lv_iconst (v := 1) hx hb d_Mo_isChain_47 (by decide) ?_
            refine lv_isub hx hb d_Mo_isChain_48 ?_
            refine lv_icmp_ge (tgt := 76) hx hb d_Mo_isChain_49 (by decide) (fun c5 => ?_) (fun c5 => ?_)
            · have hdm : ¬ d + 1 < m0 := by
                rw [hv, hm0, nI_pm (by omega), nI_leI (by omega) (by omega)] at c5; omega
              rw [if_neg (by omega), if_neg c4, if_neg (fun q => hdm q.1)] at heq
              refine lv_iload hx hb d_Mo_isChain_76 (lv_at hl 3 rfl) ?_
              refine lv_iconst (v := 1) hx hb d_Mo_isChain_78 (by decide) ?_
              refine lv_iload hx hb d_Mo_isChain_79 (lv_at hl 1 rfl) ?_
              refine lv_ishl hx hb d_Mo_isChain_81 ?_
              refine lv_ior hx hb d_Mo_isChain_82 ?_
              refine lv_istore (lv' := [(4, .int (sn ||| (1 <<< ((nI (R % 5)) &&& 31)))), (3, .int (nI (R / 5))), (6, .int (nI (R % 5))), (5, .int v), (0, .ref (ad 0)), (1, .int x), (2, .int y)]) hx hb d_Mo_isChain_83 hl (by decide) rfl (fun ls hl => ?_)
              refine lv_aload_n hx hb d_Mo_isChain_85 rfl (lv_at hl 4 rfl) ?_
              refine gf_Mo_chain F hK hP d_Mo_isChain_86 ?_
              refine lv_iload hx hb d_Mo_isChain_89 (lv_at hl 3 rfl) ?_
              refine lv_iload hx hb d_Mo_isChain_91 (lv_at hl 2 rfl) ?_
              refine sm_22 (j := d) F hK hP hD hS hv (by omega) d_Mo_isChain_93 (fun H locs hP hD hS => ?_)
              refine lv_iinc (v := v + (-1)) (lv' := [(5, .int (v + (-1))), (4, .int (sn ||| (1 <<< ((nI (R % 5)) &&& 31)))), (3, .int (nI (R / 5))), (6, .int (nI (R % 5))), (0, .ref (ad 0)), (1, .int x), (2, .int y)]) hx hb d_Mo_isChain_94 hl (k := 3) rfl (by rw [litm1]) (by decide) rfl (fun ls hl => ?_)
              refine lv_goto (tgt := 10) hx hb d_Mo_isChain_97 (by decide) ?_
              exact ih _ _ _ _ (by omega) (by omega) (by rw [hv, Int32.sub_eq_add_neg]) (by rw [u3_c (by decide)]; exact h1) (fun e9 ha hb9 => by
                by_cases hq : e9 = d
                · subst hq; rw [u3_s, nI_clamp (by omega)]; exact ⟨rfl, by omega⟩
                · rw [u3_j hq]; exact h22 e9 (by omega) hb9) heq _ _ hP hD hS ls (lv_sub hl [0, 1, 2, 4, 5, 6] rfl)
            · have hdm : d + 1 < m0 := by
                rw [hv, hm0, nI_pm (by omega), nI_leI (by omega) (by omega)] at c5; omega
              refine lv_aload_n hx hb d_Mo_isChain_52 rfl (lv_at hl 4 rfl) ?_
              refine gf_Mo_behind F hK hP d_Mo_isChain_53 ?_
              refine lv_iconst (v := 5) hx hb d_Mo_isChain_56 (by decide) ?_
              refine lv_iload hx hb d_Mo_isChain_57 (lv_at hl 1 rfl) ?_
              refine lv_imul hx hb d_Mo_isChain_59 ?_
              refine lv_aload_n hx hb d_Mo_isChain_60 rfl (lv_at hl 4 rfl) ?_
              refine gf_Mo_chain F hK hP d_Mo_isChain_61 ?_
              refine lv_iload hx hb d_Mo_isChain_64 (lv_at hl 2 rfl) ?_
              refine lv_iconst (v := 1) hx hb d_Mo_isChain_66 (by decide) ?_
              refine lv_iadd hx hb d_Mo_isChain_67 ?_
              refine im_22 (j := (d + 1)) F hK hP (by rw [hv, nI_1]) (by omega) d_Mo_isChain_68 ?_
              refine lv_iadd hx hb d_Mo_isChain_69 ?_
              refine im_18 (j := (5 * (R % 5) + (τ 22 0 (d + 1)).toNatClampNeg)) F hK hP (by rw [(h22 (d + 1) (by omega) (by omega)).1]; exact mo_ix.trans (by rw [nI_clamp (by have := (h22 (d + 1) (by omega) (by omega)).2; omega)])) (by have := (h22 (d + 1) (by omega) (by omega)).2; omega) d_Mo_isChain_70 ?_
              refine lv_if_ne (tgt := 76) hx hb d_Mo_isChain_71 (by decide) (fun c6 => ?_) (fun c6 => ?_)
              · rw [if_neg (by omega), if_neg c4, if_neg (fun q => c6 q.2)] at heq
                refine lv_iload hx hb d_Mo_isChain_76 (lv_at hl 3 rfl) ?_
                refine lv_iconst (v := 1) hx hb d_Mo_isChain_78 (by decide) ?_
                refine lv_iload hx hb d_Mo_isChain_79 (lv_at hl 1 rfl) ?_
                refine lv_ishl hx hb d_Mo_isChain_81 ?_
                refine lv_ior hx hb d_Mo_isChain_82 ?_
                refine lv_istore (lv' := [(4, .int (sn ||| (1 <<< ((nI (R % 5)) &&& 31)))), (3, .int (nI (R / 5))), (6, .int (nI (R % 5))), (5, .int v), (0, .ref (ad 0)), (1, .int x), (2, .int y)]) hx hb d_Mo_isChain_83 hl (by decide) rfl (fun ls hl => ?_)
                refine lv_aload_n hx hb d_Mo_isChain_85 rfl (lv_at hl 4 rfl) ?_
                refine gf_Mo_chain F hK hP d_Mo_isChain_86 ?_
                refine lv_iload hx hb d_Mo_isChain_89 (lv_at hl 3 rfl) ?_
                refine lv_iload hx hb d_Mo_isChain_91 (lv_at hl 2 rfl) ?_
                refine sm_22 (j := d) F hK hP hD hS hv (by omega) d_Mo_isChain_93 (fun H locs hP hD hS => ?_)
                refine lv_iinc (v := v + (-1)) (lv' := [(5, .int (v + (-1))), (4, .int (sn ||| (1 <<< ((nI (R % 5)) &&& 31)))), (3, .int (nI (R / 5))), (6, .int (nI (R % 5))), (0, .ref (ad 0)), (1, .int x), (2, .int y)]) hx hb d_Mo_isChain_94 hl (k := 3) rfl (by rw [litm1]) (by decide) rfl (fun ls hl => ?_)
                refine lv_goto (tgt := 10) hx hb d_Mo_isChain_97 (by decide) ?_
                exact ih _ _ _ _ (by omega) (by omega) (by rw [hv, Int32.sub_eq_add_neg]) (by rw [u3_c (by decide)]; exact h1) (fun e9 ha hb9 => by
                  by_cases hq : e9 = d
                  · subst hq; rw [u3_s, nI_clamp (by omega)]; exact ⟨rfl, by omega⟩
                  · rw [u3_j hq]; exact h22 e9 (by omega) hb9) heq _ _ hP hD hS ls (lv_sub hl [0, 1, 2, 4, 5, 6] rfl)
              · rw [if_neg (by omega), if_neg c4, if_pos ⟨hdm, c6⟩] at heq
                refine lv_iconst (v := 0) hx hb d_Mo_isChain_74 (by decide) ?_
                exact ok_zretM F hr hlk (by rw [heq]; exact hP) (by rw [heq]; exact hD) hS (by rfl) (by rw [heq]) d_Mo_isChain_75
  refine lv_iload_n hx hb d_Mo_isChain_0 rfl (lv_at hl 1 rfl) ?_
  refine lv_istore_n (lv' := [(3, .int x), (0, .ref (ad 0)), (1, .int x), (2, .int y)]) hx hb d_Mo_isChain_1 rfl hl (by decide) rfl (fun ls hl => ?_)
  refine lv_iconst (v := 0) hx hb d_Mo_isChain_2 (by decide) ?_
  refine lv_istore (lv' := [(4, .int 0), (3, .int x), (0, .ref (ad 0)), (1, .int x), (2, .int y)]) hx hb d_Mo_isChain_3 hl (by decide) rfl (fun ls hl => ?_)
  refine lv_iload_n hx hb d_Mo_isChain_5 rfl (lv_at hl 4 rfl) ?_
  refine lv_iconst (v := 1) hx hb d_Mo_isChain_6 (by decide) ?_
  refine lv_isub hx hb d_Mo_isChain_7 ?_
  refine lv_istore (lv' := [(5, .int (y - 1)), (4, .int 0), (3, .int x), (0, .ref (ad 0)), (1, .int x), (2, .int y)]) hx hb d_Mo_isChain_8 hl (by decide) rfl (fun ls hl => ?_)
  have hl : lv_has ls 7 [(5, .int (nI m0 - 1)), (4, .int 0), (3, .int (nI R0)), (0, .ref (ad 0)), (1, .int x), (2, .int y)] := by rw [← hm0, ← hR0]; exact (lv_sub hl [0, 1, 2, 3, 4, 5] rfl)
  exact lp m0 R0 0 _ σ (Nat.le_refl _) hR09 rfl hn (fun e9 a b => by omega) rfl _ _ hP hD hS ls hl
theorem x_Mo_isChain {σ : oS} {n : Nat} (hn : σ 1 0 0 = nI n) (hn9 : n ≤ 5) {x : Int32} {R0 : Nat} (hR0 : x = nI R0) (hR09 : R0 < 3125) {y : Int32} {m0 : Nat} (hm0 : y = nI m0) (hm09 : m0 < 6) (F : CallFix p m c cc nL s args (cw :: tt) own) (hG : Cond.methodLink own index y_Mo_isChain ∈ tt) (hR : 0 + 1 ≤ R.frames ∧ 8 + (7 + 11) + 0 ≤ R.locals) (hK : va_K D vwCl (mt cI cZ) s) (hP : va_P D vwCl (mw cI cZ ad σ) H) (hD : va_D A (mw cI cZ ad σ)) (hS : va_S A H0 H locs) (hA : ∀ q, H0.size ≤ q → A q) (hsz : ls.size = nL) (hW : (rest.map fun v => v.category).sum ≤ 8) (hcs : cells ≤ R.cells ∧ slots ≤ R.slots) (hdg : decode cc pc = .ok (.invokevirtual index, 3)) (kk : ∀ (H1 : Heap) (locs1 : List Loc), va_P D vwCl (mw cI cZ ad ((mi_l n m0 m0 R0 0 σ).1)) H1 → va_D A (mw cI cZ ad ((mi_l n m0 m0 R0 0 σ).1)) → va_S A H0 H1 locs1 → W p l e R s m args below meth c H1 locs1 cells slots Q (F0 m (pc + 3) ls (.int (mi_l n m0 m0 R0 0 σ).2 :: rest))) : W p l e R s m args below meth c H locs cells slots Q (F0 m pc ls (.int y :: .int x :: .ref (ad 0) :: rest)) :=
  ok_VM (As := [.int x, .int y]) F (c_Mo_isChain σ hn hn9 hR0 hR09 hm0 hm09) 2 (tt_V hG i_Mo_isChain l_Mo_isChain in9_Mo k_Mo_isChain) rfl ⟨rfl, rfl⟩ (by decide +kernel) hR hK hP hD hS hA (0) 6 rfl rfl mw_0 rfl hsz rfl hW hcs hdg kk
set_option maxHeartbeats 4000000 in
set_option maxRecDepth 100000 in
theorem c_Mo_chain_1 (σ : oS) {x : Int32} (h1 : x < 0) : ok_MM l y_Mo_chain (Cond.code y_Mo_chain b_Mo_chain 5 (some .int) :: tt) { frames := 1, cells := 0, slots := 0, locals := 22 } D vwCl (mt cI cZ) (mw cI cZ ad σ) (mw cI cZ ad (u3 σ 0 0 0 1)) [.ref (ad 0), .int x] (some (.int 0)) := by
  refine ok_startM (cc := b_Mo_chain) (own := RMo) (maxL := 5) (ret := (some .int)) (by decide +kernel) rfl rfl (Nat.le_of_ble_eq_true rfl) ?_
  intro p e s m below meth c A F hr hlk hA hP hK hD hS ls hl
  have hl : lv_has ls 5 [(0, .ref (ad 0)), (1, .int x)] := hl
  have hx := F.1
  have hb := F.2.1
  refine lv_aload_n hx hb d_Mo_chain_0 rfl (lv_at hl 0 rfl) ?_
  refine lv_iload_n hx hb d_Mo_chain_1 rfl (lv_at hl 1 rfl) ?_
  refine lv_if_lt (tgt := 9) hx hb d_Mo_chain_2 (by decide) (fun c1 => ?_) (fun c1 => ?_)
  · refine lv_iconst (v := 0) hx hb d_Mo_chain_9 (by decide) ?_
    refine lv_iconst (v := 1) hx hb d_Mo_chain_10 (by decide) ?_
    refine x_Mo_goes F (tt3 230 rfl rfl) ⟨Nat.le_of_ble_eq_true rfl, Nat.le_of_ble_eq_true rfl⟩ hK hP hD hS hA hl.1 (Nat.le_of_ble_eq_true rfl) ⟨Nat.zero_le _, Nat.zero_le _⟩ d_Mo_chain_11 (fun H locs hP hD hS => ?_)
    have ew : u3 σ 0 0 0 (mo_g 0 1) = u3 σ 0 0 0 1 := by simp [mo_g]
    rw [ew] at hP hD
    clear ew
    refine lv_if_ne (tgt := 19) hx hb d_Mo_chain_14 (by decide) (fun c2 => ?_) (fun c2 => ?_)
    · exact absurd (by simp [mo_g]) c2
    · refine lv_iconst (v := 0) hx hb d_Mo_chain_17 (by decide) ?_
      exact ok_iretM F hr hlk hP hD hS (rfl) d_Mo_chain_18
  · exact absurd h1 c1
theorem x_Mo_chain_1 {σ : oS} {x : Int32} (h1 : x < 0) (F : CallFix p m c cc nL s args (cw :: tt) own) (hG : Cond.methodLink own index y_Mo_chain ∈ tt) (hR : 1 + 1 ≤ R.frames ∧ 8 + (5 + 11) + 22 ≤ R.locals) (hK : va_K D vwCl (mt cI cZ) s) (hP : va_P D vwCl (mw cI cZ ad σ) H) (hD : va_D A (mw cI cZ ad σ)) (hS : va_S A H0 H locs) (hA : ∀ q, H0.size ≤ q → A q) (hsz : ls.size = nL) (hW : (rest.map fun v => v.category).sum ≤ 8) (hcs : cells ≤ R.cells ∧ slots ≤ R.slots) (hdg : decode cc pc = .ok (.invokevirtual index, 3)) (kk : ∀ (H1 : Heap) (locs1 : List Loc), va_P D vwCl (mw cI cZ ad (u3 σ 0 0 0 1)) H1 → va_D A (mw cI cZ ad (u3 σ 0 0 0 1)) → va_S A H0 H1 locs1 → W p l e R s m args below meth c H1 locs1 cells slots Q (F0 m (pc + 3) ls (.int 0 :: rest))) : W p l e R s m args below meth c H locs cells slots Q (F0 m pc ls (.int x :: .ref (ad 0) :: rest)) :=
  ok_VM (As := [.int x]) F (c_Mo_chain_1 σ h1) 1 (tt_V hG i_Mo_chain l_Mo_chain in9_Mo k_Mo_chain) rfl ⟨rfl, rfl⟩ (by decide +kernel) hR hK hP hD hS hA (0) 6 rfl rfl mw_0 rfl hsz rfl hW hcs hdg kk
set_option maxHeartbeats 4000000 in
set_option maxRecDepth 100000 in
theorem c_Mo_chain (σ : oS) {n : Nat} (hn : σ 1 0 0 = nI n) (hn9 : n ≤ 5) {x : Int32} {k : Nat} (hk : x = nI k) (hk9 : k < 2147483648) : ok_MM l y_Mo_chain (Cond.code y_Mo_chain b_Mo_chain 5 (some .int) :: tt) { frames := 1, cells := 0, slots := 0, locals := 26 } D vwCl (mt cI cZ) (mw cI cZ ad σ) (mw cI cZ ad ((mh_n n k n (u3 σ 0 0 0 0)).1)) [.ref (ad 0), .int x] (some (.int (mh_n n k n (u3 σ 0 0 0 0)).2)) := by
  refine ok_startM (cc := b_Mo_chain) (own := RMo) (maxL := 5) (ret := (some .int)) (by decide +kernel) rfl rfl (Nat.le_of_ble_eq_true rfl) ?_
  intro p e s m below meth c A F hr hlk hA hP hK hD hS ls hl
  have hl : lv_has ls 5 [(0, .ref (ad 0)), (1, .int x)] := hl
  have hx := F.1
  have hb := F.2.1
  have hp : ∀ m9 : Nat, m9 < 5 → 5 ^ (m9 + 1) ≤ 3125 := by
    intro m9 h; have h9 : m9 = 0 ∨ m9 = 1 ∨ m9 = 2 ∨ m9 = 3 ∨ m9 = 4 := by omega
    rcases h9 with rfl | rfl | rfl | rfl | rfl <;> decide
  have lp : ∀ (m9 : Nat) (τ : oS), m9 ≤ n → τ 1 0 0 = nI n → mh_n n k n (u3 σ 0 0 0 0) = mh_n n k m9 τ → ∀ (H : Heap) (locs : List Loc), va_P D vwCl (mw cI cZ ad τ) H → va_D A (mw cI cZ ad τ) → va_S A s.heap H locs → ∀ ls : Array Slot, lv_has ls 5 [(2, .int (nI m9)), (0, .ref (ad 0)), (1, .int x)] → W p l e { frames := 1, cells := 0, slots := 0, locals := 26 } s m ([.ref (ad 0), .int x] : List Value).toArray below meth c H locs 0 0 (MQ below (ok_qA D vwCl A (mw cI cZ ad ((mh_n n k n (u3 σ 0 0 0 0)).1)) (some (.int (mh_n n k n (u3 σ 0 0 0 0)).2))) ([.ref (ad 0), .int x] : List Value).toArray s 0 0 A) (F0 m 24 ls []) := by
    intro m9
    induction m9 with
    | zero =>
      intro τ hm h1 heq H locs hP hD hS ls hl
      rw [mh_n] at heq
      refine lv_iload_n hx hb d_Mo_chain_24 rfl (lv_at hl 0 rfl) ?_
      refine lv_if_le (tgt := 96) hx hb d_Mo_chain_25 (by decide) (fun c1 => ?_) (fun c1 => ?_)
      · refine lv_iconst (v := -1) hx hb d_Mo_chain_96 (by decide) ?_
        exact ok_iretM F hr hlk (by rw [heq]; exact hP) (by rw [heq]; exact hD) hS (by rw [heq]) d_Mo_chain_97
      · exact absurd (by decide) c1
    | succ m9 ih =>
      intro τ0 hm h10 heq0 H locs hP hD hS ls hl
      have hp9 := hp m9 (by omega)
      have lc : ∀ (f c9 : Nat) (τ : oS), c9 ≤ 5 ^ (m9 + 1) → 5 ^ (m9 + 1) - c9 < f → τ 1 0 0 = nI n → mh_c n (m9 + 1) (5 ^ (m9 + 1)) 0 τ0 = mh_c n (m9 + 1) (5 ^ (m9 + 1) - c9) c9 τ → ∀ (H : Heap) (locs : List Loc), va_P D vwCl (mw cI cZ ad τ) H → va_D A (mw cI cZ ad τ) → va_S A s.heap H locs → ∀ ls : Array Slot, lv_has ls 5 [(4, .int (nI c9)), (3, .int (nI (5 ^ (m9 + 1)))), (2, .int (nI (m9 + 1))), (0, .ref (ad 0)), (1, .int x)] → W p l e { frames := 1, cells := 0, slots := 0, locals := 26 } s m ([.ref (ad 0), .int x] : List Value).toArray below meth c H locs 0 0 (MQ below (ok_qA D vwCl A (mw cI cZ ad ((mh_n n k n (u3 σ 0 0 0 0)).1)) (some (.int (mh_n n k n (u3 σ 0 0 0 0)).2))) ([.ref (ad 0), .int x] : List Value).toArray s 0 0 A) (F0 m 52 ls []) := by
        intro f
        induction f with
        | zero => intro c9 τ a1 a2; omega
        | succ f ihc =>
          intro c9 τ a1 a2 h1 heqc H locs hP hD hS ls hl
          refine lv_iload hx hb d_Mo_chain_52 (lv_at hl 0 rfl) ?_
          refine lv_iload_n hx hb d_Mo_chain_54 rfl (lv_at hl 1 rfl) ?_
          refine lv_icmp_ge (tgt := 90) hx hb d_Mo_chain_55 (by decide) (fun c2 => ?_) (fun c2 => ?_)
          · have hcn : c9 = 5 ^ (m9 + 1) := by
              rw [nI_leI (by omega) (by omega)] at c2; omega
            rw [hcn, Nat.sub_self, mh_c] at heqc
            refine lv_iinc (v := (nI (m9 + 1)) + (-1)) (lv' := [(2, .int ((nI (m9 + 1)) + (-1))), (4, .int (nI c9)), (3, .int (nI (5 ^ (m9 + 1)))), (0, .ref (ad 0)), (1, .int x)]) hx hb d_Mo_chain_90 hl (k := 2) rfl (by rw [litm1]) (by decide) rfl (fun ls hl => ?_)
            refine lv_goto (tgt := 24) hx hb d_Mo_chain_93 (by decide) ?_
            rw [pk_m1] at hl
            exact ih τ (by omega) h1 (by rw [mh_n, heqc, if_neg (by intro q; cases q)] at heq0; exact heq0) _ _ hP hD hS ls (lv_sub hl [0, 3, 4] rfl)
          · have hcn : c9 < 5 ^ (m9 + 1) := by
              rw [nI_leI (by omega) (by omega)] at c2; omega
            rw [show 5 ^ (m9 + 1) - c9 = (5 ^ (m9 + 1) - (c9 + 1)) + 1 by omega, mh_c] at heqc
            refine lv_aload_n hx hb d_Mo_chain_58 rfl (lv_at hl 3 rfl) ?_
            refine lv_iload hx hb d_Mo_chain_59 (lv_at hl 0 rfl) ?_
            refine lv_iload_n hx hb d_Mo_chain_61 rfl (lv_at hl 2 rfl) ?_
            refine x_Mo_isChain (n := n) h1 hn9 (R0 := c9) rfl (by omega) (m0 := (m9 + 1)) rfl (by omega) F (tt4 94 rfl rfl) ⟨Nat.le_of_ble_eq_true rfl, Nat.le_of_ble_eq_true rfl⟩ hK hP hD hS hA hl.1 (Nat.le_of_ble_eq_true rfl) ⟨Nat.zero_le _, Nat.zero_le _⟩ d_Mo_chain_62 (fun H locs hP hD hS => ?_)
            refine lv_if_eq (tgt := 84) hx hb d_Mo_chain_65 (by decide) (fun c3 => ?_) (fun c3 => ?_)
            · rw [if_pos c3] at heqc
              refine lv_iinc (v := nI (c9 + 1)) (lv' := [(4, .int (nI (c9 + 1))), (3, .int (nI (5 ^ (m9 + 1)))), (2, .int (nI (m9 + 1))), (0, .ref (ad 0)), (1, .int x)]) hx hb d_Mo_chain_84 hl (k := 0) rfl (nI_inc _) (by decide) rfl (fun ls hl => ?_)
              refine lv_goto (tgt := 52) hx hb d_Mo_chain_87 (by decide) ?_
              exact ihc _ _ (by omega) (by omega) (by rw [mi_l_c (by decide)]; exact h1) heqc _ _ hP hD hS ls (lv_sub hl [0, 1, 2, 3, 4] rfl)
            · rw [if_neg c3] at heqc
              rw [mh_n, heqc, if_pos rfl] at heq0
              refine lv_iload_n hx hb d_Mo_chain_68 rfl (lv_at hl 4 rfl) ?_
              refine lv_iload_n hx hb d_Mo_chain_69 rfl (lv_at hl 2 rfl) ?_
              refine lv_icmp_ge (tgt := 82) hx hb d_Mo_chain_70 (by decide) (fun c4 => ?_) (fun c4 => ?_)
              · have hkm : m9 + 1 ≤ k := by
                  rw [hk, nI_leI (by omega) (by omega)] at c4; omega
                refine lv_iconst (v := -1) hx hb d_Mo_chain_82 (by decide) ?_
                exact ok_iretM F hr hlk (by rw [heq0]; exact hP) (by rw [heq0]; exact hD) hS (by rw [heq0]; first | (rw [if_pos hkm]; done) | rw [if_neg (by omega)]) d_Mo_chain_83
              · have hkm : k < m9 + 1 := by
                  rw [hk, nI_leI (by omega) (by omega)] at c4; omega
                refine lv_aload_n hx hb d_Mo_chain_73 rfl (lv_at hl 3 rfl) ?_
                refine gf_Mo_chain F hK hP d_Mo_chain_74 ?_
                refine lv_iload_n hx hb d_Mo_chain_77 rfl (lv_at hl 4 rfl) ?_
                refine im_22 (j := k) F hK hP hk (by omega) d_Mo_chain_78 ?_
                refine lv_goto (tgt := 83) hx hb d_Mo_chain_79 (by decide) ?_
                exact ok_iretM F hr hlk (by rw [heq0]; exact hP) (by rw [heq0]; exact hD) hS (by rw [heq0]; first | (rw [if_pos hkm]; done) | rw [if_neg (by omega)]) d_Mo_chain_83
      have lw : ∀ (f j9 : Nat), j9 ≤ m9 + 1 → m9 + 1 - j9 < f → ∀ ls : Array Slot, lv_has ls 5 [(4, .int (nI j9)), (3, .int (nI (5 ^ j9))), (2, .int (nI (m9 + 1))), (0, .ref (ad 0)), (1, .int x)] → W p l e { frames := 1, cells := 0, slots := 0, locals := 26 } s m ([.ref (ad 0), .int x] : List Value).toArray below meth c H locs 0 0 (MQ below (ok_qA D vwCl A (mw cI cZ ad ((mh_n n k n (u3 σ 0 0 0 0)).1)) (some (.int (mh_n n k n (u3 σ 0 0 0 0)).2))) ([.ref (ad 0), .int x] : List Value).toArray s 0 0 A) (F0 m 33 ls []) := by
        intro f
        induction f with
        | zero => intro j9 a1 a2; omega
        | succ f ihw =>
          intro j9 a1 a2 ls hl
          refine lv_iload hx hb d_Mo_chain_33 (lv_at hl 0 rfl) ?_
          refine lv_iload_n hx hb d_Mo_chain_35 rfl (lv_at hl 2 rfl) ?_
          refine lv_icmp_ge (tgt := 49) hx hb d_Mo_chain_36 (by decide) (fun c5 => ?_) (fun c5 => ?_)
          · have hj : m9 + 1 = j9 := by
              rw [nI_leI (by omega) (by omega)] at c5; omega
            subst hj
            refine lv_iconst (v := 0) hx hb d_Mo_chain_49 (by decide) ?_
            refine lv_istore (lv' := [(4, .int 0), (3, .int (nI (5 ^ (m9 + 1)))), (2, .int (nI (m9 + 1))), (0, .ref (ad 0)), (1, .int x)]) hx hb d_Mo_chain_50 hl (by decide) rfl (fun ls hl => ?_)
            exact lc (5 ^ (m9 + 1) + 1) 0 τ0 (Nat.zero_le _) (by rw [Nat.sub_zero]; exact Nat.lt_succ_self _) h10 (by rw [Nat.sub_zero]) _ _ hP hD hS ls (lv_sub hl [0, 1, 2, 3, 4] rfl)
          · have hj : j9 < m9 + 1 := by
              rw [nI_leI (by omega) (by omega)] at c5; omega
            refine lv_iload_n hx hb d_Mo_chain_39 rfl (lv_at hl 1 rfl) ?_
            refine lv_iconst (v := 5) hx hb d_Mo_chain_40 (by decide) ?_
            refine lv_imul hx hb d_Mo_chain_41 ?_
            rw [show nI (5 ^ j9) * 5 = nI (5 ^ (j9 + 1)) by rw [show (5 : Int32) = nI 5 from rfl, pk_mul, Nat.pow_succ]]
            refine lv_istore_n (lv' := [(3, .int (nI (5 ^ (j9 + 1)))), (4, .int (nI j9)), (2, .int (nI (m9 + 1))), (0, .ref (ad 0)), (1, .int x)]) hx hb d_Mo_chain_42 rfl hl (by decide) rfl (fun ls hl => ?_)
            refine lv_iinc (v := nI (j9 + 1)) (lv' := [(4, .int (nI (j9 + 1))), (3, .int (nI (5 ^ (j9 + 1)))), (2, .int (nI (m9 + 1))), (0, .ref (ad 0)), (1, .int x)]) hx hb d_Mo_chain_43 hl (k := 1) rfl (nI_inc _) (by decide) rfl (fun ls hl => ?_)
            refine lv_goto (tgt := 33) hx hb d_Mo_chain_46 (by decide) ?_
            exact ihw (j9 + 1) (by omega) (by omega) ls (lv_sub hl [0, 1, 2, 3, 4] rfl)
      refine lv_iload_n hx hb d_Mo_chain_24 rfl (lv_at hl 0 rfl) ?_
      refine lv_if_le (tgt := 96) hx hb d_Mo_chain_25 (by decide) (fun c6 => ?_) (fun c6 => ?_)
      · exact absurd c6 (nI_nle (by omega) (by omega))
      · refine lv_iconst (v := 1) hx hb d_Mo_chain_28 (by decide) ?_
        refine lv_istore_n (lv' := [(3, .int 1), (2, .int (nI (m9 + 1))), (0, .ref (ad 0)), (1, .int x)]) hx hb d_Mo_chain_29 rfl hl (by decide) rfl (fun ls hl => ?_)
        refine lv_iconst (v := 0) hx hb d_Mo_chain_30 (by decide) ?_
        refine lv_istore (lv' := [(4, .int 0), (3, .int 1), (2, .int (nI (m9 + 1))), (0, .ref (ad 0)), (1, .int x)]) hx hb d_Mo_chain_31 hl (by decide) rfl (fun ls hl => ?_)
        exact lw (m9 + 2) 0 (by omega) (by omega) ls (lv_sub hl [0, 1, 2, 3, 4] rfl)
  refine lv_aload_n hx hb d_Mo_chain_0 rfl (lv_at hl 0 rfl) ?_
  refine lv_iload_n hx hb d_Mo_chain_1 rfl (lv_at hl 1 rfl) ?_
  refine lv_if_lt (tgt := 9) hx hb d_Mo_chain_2 (by decide) (fun c7 => ?_) (fun c7 => ?_)
  · exact absurd c7 (by rw [hk]; exact nI_pos (by omega))
  · refine lv_iconst (v := 1) hx hb d_Mo_chain_5 (by decide) ?_
    refine lv_goto (tgt := 10) hx hb d_Mo_chain_6 (by decide) ?_
    refine lv_iconst (v := 1) hx hb d_Mo_chain_10 (by decide) ?_
    refine x_Mo_goes F (tt3 230 rfl rfl) ⟨Nat.le_of_ble_eq_true rfl, Nat.le_of_ble_eq_true rfl⟩ hK hP hD hS hA hl.1 (Nat.le_of_ble_eq_true rfl) ⟨Nat.zero_le _, Nat.zero_le _⟩ d_Mo_chain_11 (fun H locs hP hD hS => ?_)
    have ew : u3 σ 0 0 0 (mo_g 1 1) = u3 σ 0 0 0 0 := by simp [mo_g]
    rw [ew] at hP hD
    clear ew
    refine lv_if_ne (tgt := 19) hx hb d_Mo_chain_14 (by decide) (fun c8 => ?_) (fun c8 => ?_)
    · refine lv_aload_n hx hb d_Mo_chain_19 rfl (lv_at hl 0 rfl) ?_
      refine gf_Mo_columns F hK hP d_Mo_chain_20 ?_
      refine lv_istore_n (lv' := [(2, .int ((u3 σ 0 0 0 0) 1 0 0)), (0, .ref (ad 0)), (1, .int x)]) hx hb d_Mo_chain_23 rfl hl (by decide) rfl (fun ls hl => ?_)
      have hl : lv_has ls 5 [(2, .int (nI n)), (0, .ref (ad 0)), (1, .int x)] := by rw [show nI n = (u3 σ 0 0 0 0) 1 0 0 by rw [u3_c (by decide)]; exact hn.symm]; exact (lv_sub hl [0, 1, 2] rfl)
      exact lp n _ (Nat.le_refl _) (by rw [u3_c (by decide)]; exact hn) rfl _ _ hP hD hS ls hl
    · exact absurd c8 (by simp [mo_g])
theorem x_Mo_chain {σ : oS} {n : Nat} (hn : σ 1 0 0 = nI n) (hn9 : n ≤ 5) {x : Int32} {k : Nat} (hk : x = nI k) (hk9 : k < 2147483648) (F : CallFix p m c cc nL s args (cw :: tt) own) (hG : Cond.methodLink own index y_Mo_chain ∈ tt) (hR : 1 + 1 ≤ R.frames ∧ 8 + (5 + 11) + 26 ≤ R.locals) (hK : va_K D vwCl (mt cI cZ) s) (hP : va_P D vwCl (mw cI cZ ad σ) H) (hD : va_D A (mw cI cZ ad σ)) (hS : va_S A H0 H locs) (hA : ∀ q, H0.size ≤ q → A q) (hsz : ls.size = nL) (hW : (rest.map fun v => v.category).sum ≤ 8) (hcs : cells ≤ R.cells ∧ slots ≤ R.slots) (hdg : decode cc pc = .ok (.invokevirtual index, 3)) (kk : ∀ (H1 : Heap) (locs1 : List Loc), va_P D vwCl (mw cI cZ ad ((mh_n n k n (u3 σ 0 0 0 0)).1)) H1 → va_D A (mw cI cZ ad ((mh_n n k n (u3 σ 0 0 0 0)).1)) → va_S A H0 H1 locs1 → W p l e R s m args below meth c H1 locs1 cells slots Q (F0 m (pc + 3) ls (.int (mh_n n k n (u3 σ 0 0 0 0)).2 :: rest))) : W p l e R s m args below meth c H locs cells slots Q (F0 m pc ls (.int x :: .ref (ad 0) :: rest)) :=
  ok_VM (As := [.int x]) F (c_Mo_chain σ hn hn9 hk hk9) 1 (tt_V hG i_Mo_chain l_Mo_chain in9_Mo k_Mo_chain) rfl ⟨rfl, rfl⟩ (by decide +kernel) hR hK hP hD hS hA (0) 6 rfl rfl mw_0 rfl hsz rfl hW hcs hdg kk
end
