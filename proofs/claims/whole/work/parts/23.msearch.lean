-- the reference's search
def mo_m (σ : oS) (m : Nat) : Nat → Int32
  | 0 => mo_w σ m
  | d + 1 => if σ 10 0 (m + d) ≤ 0 then mo_m σ m d else mo_m σ m d + σ 10 0 (m + d) * σ 11 0 (m + d)
def mo_l (σ : oS) (r n m k : Nat) : Int32 := mo_h σ r k (mo_s2 σ r k m (mo_s1 σ r k 11 m) (n - m))
def mo_all (σ : oS) (r n m : Nat) : Nat → Bool
  | 0 => true
  | k + 1 => mo_all σ r n m k && (mo_l σ r n m k == 1)
theorem mo_all_mono {σ : oS} {r n m k q : Nat} (h : k ≤ q) (hk : mo_all σ r n m k = false) : mo_all σ r n m q = false := by
  induction q with
  | zero => rw [show k = 0 by omega] at hk; exact hk
  | succ q ih =>
    by_cases e : k = q + 1
    · rw [← e]; exact hk
    · rw [mo_all, ih (by omega)]; rfl
theorem mo_h_1 {σ : oS} {r k : Nat} {s : Int32} (h : ¬ mo_h σ r k s = 0) : mo_h σ r k s = 1 := by
  unfold mo_h at h ⊢
  split <;> split <;> simp_all
def mo_c (σ : oS) (r u n m : Nat) : Int32 := if ¬ σ 7 0 0 = 0 ∧ mo_m σ m (n - m) ≤ σ 9 0 0 then 1 else if mo_all σ r n m (r + u) = true then 0 else 1
theorem mo_c_b {σ : oS} {r u n m : Nat} : narrow .boolean (.int (mo_c σ r u n m)) = .int (mo_c σ r u n m) := by
  unfold mo_c
  split
  · rfl
  · split <;> rfl
def mo_K (σ : oS) (n : Nat) : oS := uA (u3 (u3 σ 7 0 0 1) 9 0 0 (mo_w σ n)) 21 0 (fun j => if j < n then σ 20 0 j else σ 21 0 j)
def mo_q (σ : oS) (n d : Nat) : oS := uA (u3 (u3 σ 7 0 0 1) 9 0 0 (mo_w σ n)) 21 0 (fun j => if j < d then σ 20 0 j else σ 21 0 j)
theorem mo_q_c {σ : oS} {n d c : Nat} (h1 : c ≠ 7) (h2 : c ≠ 9) (h3 : c ≠ 21) : mo_q σ n d c = σ c := by
  funext i9
  unfold mo_q
  rw [uA_n (fun q => h3 q.1), u3_c h2, u3_c h1]
theorem mo_q_s {σ : oS} {n d : Nat} : u3 (mo_q σ n d) 21 0 d (mo_q σ n d 20 0 d) = mo_q σ n (d + 1) := by
  rw [mo_q_c (by decide) (by decide) (by decide)]
  unfold u3
  conv => lhs; unfold mo_q
  rw [uA_uA]
  conv => rhs; unfold mo_q
  congr 1
  funext j
  unfold upd
  rw [uA_s]
  by_cases h : j = d
  · subst h
    rw [if_pos rfl, if_pos (by omega)]
  · rw [if_neg h]
    by_cases h2 : j < d
    · rw [if_pos h2, if_pos (by omega)]
    · rw [if_neg h2, if_neg (by omega)]
theorem mo_q_0 {σ : oS} {n : Nat} : u3 (u3 σ 7 0 0 1) 9 0 0 (mo_w σ n) = mo_q σ n 0 := by
  unfold mo_q
  funext c9 i9
  by_cases h : c9 = 21 ∧ i9 = 0
  · rw [h.1, h.2, uA_s]
    funext j
    rw [if_neg (by omega), u3_c (by decide), u3_c (by decide)]
  · rw [uA_n h]
theorem mo_w_7 {σ : oS} {v : Int32} {m : Nat} : mo_w (u3 σ 7 0 0 v) m = mo_w σ m := by
  induction m with
  | zero => rfl
  | succ m ih => rw [mo_w, mo_w, ih, u3_c (by decide), u3_c (by decide)]
theorem mo_cnt {σ : oS} {r u : Nat} (h_r : σ 2 0 0 = nI r) (h_u : σ 3 0 0 = nI u) : σ 2 0 0 + σ 3 0 0 = nI (r + u) := by rw [h_r, h_u, nI_add]
section
variable {l : Launch} {D : va_G} {cI cZ : ClassId} {ad : Nat → Nat}
variable {p : Program} {e : Env} {R : Room} {s : State} {m : MethodId} {args : Array Value} {below : List Frame} {meth : Method} {c : Code} {H : Heap} {locs : List Loc} {cells slots : Nat} {Q : State → Prop} {cc : ByteArray} {pc nL index : Nat} {ls : Array Slot} {rest : List Value} {A : Nat → Prop} {H0 : Heap} {cw : Cond} {own : String}
set_option maxHeartbeats 4000000 in
set_option maxRecDepth 100000 in
theorem c_Mo_isCut (σ : oS) {r : Nat} {u : Nat} (h_r : σ 2 0 0 = nI r) (h_u : σ 3 0 0 = nI u) (hr4 : r ≤ 4) (hu4 : u ≤ 4) {n : Nat} (hn : σ 1 0 0 = nI n) (hn9 : n ≤ 5) (hok : mo_ok σ u) {x : Int32} {m0 : Nat} (hm0 : x = nI m0) (hm09 : m0 < 6) (hmn : m0 ≤ n) : ok_MR l y_Mo_isCut (Cond.code y_Mo_isCut b_Mo_isCut 4 (some .boolean) :: tt) { frames := 2, cells := 0, slots := 0, locals := 49 } D vwCl (mt cI cZ) (mw cI cZ ad σ) [.ref (ad 0), .int x] (some (.int (mo_c σ r u n m0))) := by
  refine ok_startR (cc := b_Mo_isCut) (own := RMo) (maxL := 4) (ret := (some .boolean)) (by decide +kernel) rfl rfl (Nat.le_of_ble_eq_true rfl) ?_
  intro p e s m below meth c F hr hlk hP hK ls hl
  have hl : lv_has ls 4 [(0, .ref (ad 0)), (1, .int x)] := hl
  have hx := F.1
  have hb := F.2.1
  have lr : ¬ (¬ σ 7 0 0 = 0 ∧ mo_m σ m0 (n - m0) ≤ σ 9 0 0) → ∀ ls : Array Slot, lv_has ls 4 [(3, .int (nI 0)), (2, .int (mo_m σ m0 (n - m0))), (0, .ref (ad 0)), (1, .int x)] → W p l e { frames := 2, cells := 0, slots := 0, locals := 49 } s m ([.ref (ad 0), .int x] : List Value).toArray below meth c s.heap [] 0 0 (MQ below (ok_R (some (.int (mo_c σ r u n m0)))) ([.ref (ad 0), .int x] : List Value).toArray s 0 0 (fun _ => False)) (F0 m 66 ls []) := by
    intro hno
    have lp : ∀ (f k : Nat), k ≤ (r + u) → (r + u) - k < f → mo_all σ r n m0 k = true → ∀ ls : Array Slot, lv_has ls 4 [(3, .int (nI k)), (2, .int (mo_m σ m0 (n - m0))), (0, .ref (ad 0)), (1, .int x)] → W p l e { frames := 2, cells := 0, slots := 0, locals := 49 } s m ([.ref (ad 0), .int x] : List Value).toArray below meth c s.heap [] 0 0 (MQ below (ok_R (some (.int (mo_c σ r u n m0)))) ([.ref (ad 0), .int x] : List Value).toArray s 0 0 (fun _ => False)) (F0 m 66 ls []) := by
      intro f
      induction f with
      | zero => intro k h1 h2; omega
      | succ f ih =>
        intro k h1 h2 hin ls hl
        refine lv_iload_n hx hb d_Mo_isCut_66 rfl (lv_at hl 0 rfl) ?_
        refine lv_aload_n hx hb d_Mo_isCut_67 rfl (lv_at hl 2 rfl) ?_
        refine gf_Mo_rows F hK hP d_Mo_isCut_68 ?_
        refine lv_aload_n hx hb d_Mo_isCut_71 rfl (lv_at hl 2 rfl) ?_
        refine gf_Mo_cuts F hK hP d_Mo_isCut_72 ?_
        refine lv_iadd hx hb d_Mo_isCut_75 ?_
        refine lv_icmp_ge (tgt := 100) hx hb d_Mo_isCut_76 (by decide) (fun c1 => ?_) (fun c1 => ?_)
        · have hkn : (r + u) = k := by
            rw [mo_cnt h_r h_u, nI_leI (by omega) (by omega)] at c1; omega
          subst hkn
          refine lv_iconst (v := 0) hx hb d_Mo_isCut_100 (by decide) ?_
          exact ok_zretR F hr hlk (rfl) (by rw [mo_c, if_neg hno, if_pos hin]) d_Mo_isCut_101
        · have hkn : k < (r + u) := by
            rw [mo_cnt h_r h_u, nI_leI (by omega) (by omega)] at c1; omega
          refine lv_aload_n hx hb d_Mo_isCut_79 rfl (lv_at hl 2 rfl) ?_
          refine lv_iload_n hx hb d_Mo_isCut_80 rfl (lv_at hl 0 rfl) ?_
          refine lv_aload_n hx hb d_Mo_isCut_81 rfl (lv_at hl 2 rfl) ?_
          refine gf_Mo_number F hK hP d_Mo_isCut_82 ?_
          refine lv_iload_n hx hb d_Mo_isCut_85 rfl (lv_at hl 3 rfl) ?_
          refine x_Mo_canHold (r := r) (u := u) h_r h_u hr4 hu4 (n := n) hn hn9 hok (k := k) rfl (by omega) (by omega) (w := 11) (by decide) (m0 := m0) hm0 (by omega) (by omega) F (tt4 39 rfl rfl) ⟨Nat.le_of_ble_eq_true rfl, Nat.le_of_ble_eq_true rfl⟩ hK hP hl.1 (Nat.le_of_ble_eq_true rfl) ⟨Nat.zero_le _, Nat.zero_le _⟩ d_Mo_isCut_86 ?_
          refine lv_if_ne (tgt := 94) hx hb d_Mo_isCut_89 (by decide) (fun c2 => ?_) (fun c2 => ?_)
          · refine lv_iinc (v := nI (k + 1)) (lv' := [(3, .int (nI (k + 1))), (2, .int (mo_m σ m0 (n - m0))), (0, .ref (ad 0)), (1, .int x)]) hx hb d_Mo_isCut_94 hl (k := 0) rfl (nI_inc _) (by decide) rfl (fun ls hl => ?_)
            refine lv_goto (tgt := 66) hx hb d_Mo_isCut_97 (by decide) ?_
            exact ih (k + 1) (by omega) (by omega) (by rw [mo_all, hin, mo_l, mo_h_1 c2]; rfl) ls (lv_sub hl [0, 1, 2, 3] rfl)
          · refine lv_iconst (v := 1) hx hb d_Mo_isCut_92 (by decide) ?_
            exact ok_zretR F hr hlk (rfl) (by rw [mo_c, if_neg hno, if_neg (by rw [mo_all_mono (k := k + 1) (by omega) (by rw [mo_all, hin]; simp [mo_l, c2])]; decide)]) d_Mo_isCut_93
    exact lp (r + u + 1) 0 (by omega) (by omega) rfl
  have lq : ∀ (f d : Nat), m0 + d ≤ n → n - (m0 + d) < f → ∀ ls : Array Slot, lv_has ls 4 [(3, .int (nI (m0 + d))), (2, .int (mo_m σ m0 d)), (0, .ref (ad 0)), (1, .int x)] → W p l e { frames := 2, cells := 0, slots := 0, locals := 49 } s m ([.ref (ad 0), .int x] : List Value).toArray below meth c s.heap [] 0 0 (MQ below (ok_R (some (.int (mo_c σ r u n m0)))) ([.ref (ad 0), .int x] : List Value).toArray s 0 0 (fun _ => False)) (F0 m 8 ls []) := by
    intro f
    induction f with
    | zero => intro d h1 h2; omega
    | succ f ih =>
      intro d h1 h2 ls hl
      refine lv_iload_n hx hb d_Mo_isCut_8 rfl (lv_at hl 0 rfl) ?_
      refine lv_aload_n hx hb d_Mo_isCut_9 rfl (lv_at hl 2 rfl) ?_
      refine gf_Mo_columns F hK hP d_Mo_isCut_10 ?_
      refine lv_icmp_ge (tgt := 47) hx hb d_Mo_isCut_13 (by decide) (fun c3 => ?_) (fun c3 => ?_)
      · have hdn : n = m0 + d := by
          rw [hn, nI_leI (by omega) (by omega)] at c3; omega
        have hM2 : mo_m σ m0 d = mo_m σ m0 (n - m0) := by rw [show n - m0 = d by omega]
        refine lv_aload_n hx hb d_Mo_isCut_47 rfl (lv_at hl 2 rfl) ?_
        refine gf_Mo_found F hK hP d_Mo_isCut_48 ?_
        refine lv_if_eq (tgt := 64) hx hb d_Mo_isCut_51 (by decide) (fun c4 => ?_) (fun c4 => ?_)
        · refine lv_iconst (v := 0) hx hb d_Mo_isCut_64 (by decide) ?_
          refine lv_istore_n (lv' := [(3, .int 0), (2, .int (mo_m σ m0 d)), (0, .ref (ad 0)), (1, .int x)]) hx hb d_Mo_isCut_65 rfl hl (by decide) rfl (fun ls hl => ?_)
          exact lr (fun q => q.1 c4) ls (by rw [← hM2]; exact (lv_sub hl [0, 1, 2, 3] rfl))
        · refine lv_iload_n hx hb d_Mo_isCut_54 rfl (lv_at hl 1 rfl) ?_
          refine lv_aload_n hx hb d_Mo_isCut_55 rfl (lv_at hl 2 rfl) ?_
          refine gf_Mo_bestWorth F hK hP d_Mo_isCut_56 ?_
          refine lv_icmp_gt (tgt := 64) hx hb d_Mo_isCut_59 (by decide) (fun c5 => ?_) (fun c5 => ?_)
          · refine lv_iconst (v := 0) hx hb d_Mo_isCut_64 (by decide) ?_
            refine lv_istore_n (lv' := [(3, .int 0), (2, .int (mo_m σ m0 d)), (0, .ref (ad 0)), (1, .int x)]) hx hb d_Mo_isCut_65 rfl hl (by decide) rfl (fun ls hl => ?_)
            exact lr (fun q => absurd q.2 (by rw [← hM2]; exact Int32.not_le.mpr c5)) ls (by rw [← hM2]; exact (lv_sub hl [0, 1, 2, 3] rfl))
          · refine lv_iconst (v := 1) hx hb d_Mo_isCut_62 (by decide) ?_
            exact ok_zretR F hr hlk (rfl) (by rw [mo_c, if_pos ⟨c4, by rw [← hM2]; exact Int32.not_lt.mp c5⟩]) d_Mo_isCut_63
      · have hdn : m0 + d < n := by
          rw [hn, nI_leI (by omega) (by omega)] at c3; omega
        refine lv_aload_n hx hb d_Mo_isCut_16 rfl (lv_at hl 2 rfl) ?_
        refine gf_Mo_worth F hK hP d_Mo_isCut_17 ?_
        refine lv_iload_n hx hb d_Mo_isCut_20 rfl (lv_at hl 0 rfl) ?_
        refine im_10 (j := (m0 + d)) F hK hP rfl (by omega) d_Mo_isCut_21 ?_
        refine lv_if_le (tgt := 41) hx hb d_Mo_isCut_22 (by decide) (fun c6 => ?_) (fun c6 => ?_)
        · refine lv_iinc (v := nI (m0 + d + 1)) (lv' := [(3, .int (nI (m0 + d + 1))), (2, .int (mo_m σ m0 d)), (0, .ref (ad 0)), (1, .int x)]) hx hb d_Mo_isCut_41 hl (k := 0) rfl (nI_inc _) (by decide) rfl (fun ls hl => ?_)
          refine lv_goto (tgt := 8) hx hb d_Mo_isCut_44 (by decide) ?_
          have e9 : mo_m σ m0 (d + 1) = mo_m σ m0 d := by
            rw [mo_m]; first | rw [if_pos c6] | rw [if_neg c6]
          exact ih (d + 1) (by omega) (by omega) ls (by rw [e9]; exact (lv_sub hl [0, 1, 2, 3] rfl))
        · refine lv_iload_n hx hb d_Mo_isCut_25 rfl (lv_at hl 1 rfl) ?_
          refine lv_aload_n hx hb d_Mo_isCut_26 rfl (lv_at hl 2 rfl) ?_
          refine gf_Mo_worth F hK hP d_Mo_isCut_27 ?_
          refine lv_iload_n hx hb d_Mo_isCut_30 rfl (lv_at hl 0 rfl) ?_
          refine im_10 (j := (m0 + d)) F hK hP rfl (by omega) d_Mo_isCut_31 ?_
          refine lv_aload_n hx hb d_Mo_isCut_32 rfl (lv_at hl 2 rfl) ?_
          refine gf_Mo_top F hK hP d_Mo_isCut_33 ?_
          refine lv_iload_n hx hb d_Mo_isCut_36 rfl (lv_at hl 0 rfl) ?_
          refine im_11 (j := (m0 + d)) F hK hP rfl (by omega) d_Mo_isCut_37 ?_
          refine lv_imul hx hb d_Mo_isCut_38 ?_
          refine lv_iadd hx hb d_Mo_isCut_39 ?_
          refine lv_istore_n (lv' := [(2, .int ((mo_m σ m0 d) + ((σ 10 0 (m0 + d)) * (σ 11 0 (m0 + d))))), (3, .int (nI (m0 + d))), (0, .ref (ad 0)), (1, .int x)]) hx hb d_Mo_isCut_40 rfl hl (by decide) rfl (fun ls hl => ?_)
          refine lv_iinc (v := nI (m0 + d + 1)) (lv' := [(3, .int (nI (m0 + d + 1))), (2, .int ((mo_m σ m0 d) + ((σ 10 0 (m0 + d)) * (σ 11 0 (m0 + d))))), (0, .ref (ad 0)), (1, .int x)]) hx hb d_Mo_isCut_41 hl (k := 1) rfl (nI_inc _) (by decide) rfl (fun ls hl => ?_)
          refine lv_goto (tgt := 8) hx hb d_Mo_isCut_44 (by decide) ?_
          have e9 : mo_m σ m0 (d + 1) = (mo_m σ m0 d) + ((σ 10 0 (m0 + d)) * (σ 11 0 (m0 + d))) := by
            rw [mo_m]; first | rw [if_pos c6] | rw [if_neg c6]
          exact ih (d + 1) (by omega) (by omega) ls (by rw [e9]; exact (lv_sub hl [0, 1, 2, 3] rfl))
  refine lv_aload_n hx hb d_Mo_isCut_0 rfl (lv_at hl 0 rfl) ?_
  refine lv_iload_n hx hb d_Mo_isCut_1 rfl (lv_at hl 1 rfl) ?_
  refine x_Mo_worthOf (m0 := m0) hm0 (by omega) F (tt4 35 rfl rfl) ⟨Nat.le_of_ble_eq_true rfl, Nat.le_of_ble_eq_true rfl⟩ hK hP hl.1 (Nat.le_of_ble_eq_true rfl) ⟨Nat.zero_le _, Nat.zero_le _⟩ d_Mo_isCut_2 ?_
  refine lv_istore_n (lv' := [(2, .int (mo_w σ m0)), (0, .ref (ad 0)), (1, .int x)]) hx hb d_Mo_isCut_5 rfl hl (by decide) rfl (fun ls hl => ?_)
  refine lv_iload_n hx hb d_Mo_isCut_6 rfl (lv_at hl 2 rfl) ?_
  refine lv_istore_n (lv' := [(3, .int x), (2, .int (mo_w σ m0)), (0, .ref (ad 0)), (1, .int x)]) hx hb d_Mo_isCut_7 rfl hl (by decide) rfl (fun ls hl => ?_)
  have hl : lv_has ls 4 [(3, .int (nI (m0 + 0))), (2, .int (mo_m σ m0 0)), (0, .ref (ad 0)), (1, .int x)] := by rw [Nat.add_zero, ← hm0]; exact (lv_sub hl [0, 1, 2, 3] rfl)
  exact lq (n + 1) 0 (by omega) (by omega) ls hl
theorem x_Mo_isCut {σ : oS} {r : Nat} {u : Nat} (h_r : σ 2 0 0 = nI r) (h_u : σ 3 0 0 = nI u) (hr4 : r ≤ 4) (hu4 : u ≤ 4) {n : Nat} (hn : σ 1 0 0 = nI n) (hn9 : n ≤ 5) (hok : mo_ok σ u) {x : Int32} {m0 : Nat} (hm0 : x = nI m0) (hm09 : m0 < 6) (hmn : m0 ≤ n) (F : CallFix p m c cc nL s args (cw :: tt) own) (hG : Cond.methodLink own index y_Mo_isCut ∈ tt) (hR : 2 + 1 ≤ R.frames ∧ 8 + (4 + 11) + 49 ≤ R.locals) (hK : va_K D vwCl (mt cI cZ) s) (hP : va_P D vwCl (mw cI cZ ad σ) H) (hsz : ls.size = nL) (hW : (rest.map fun v => v.category).sum ≤ 8) (hcs : cells ≤ R.cells ∧ slots ≤ R.slots) (hdg : decode cc pc = .ok (.invokevirtual index, 3)) (kk : W p l e R s m args below meth c H locs cells slots Q (F0 m (pc + 3) ls (.int (mo_c σ r u n m0) :: rest))) : W p l e R s m args below meth c H locs cells slots Q (F0 m pc ls (.int x :: .ref (ad 0) :: rest)) :=
  ok_VR (As := [.int x]) F (c_Mo_isCut σ h_r h_u hr4 hu4 hn hn9 hok hm0 hm09 hmn) 1 (tt_V hG i_Mo_isCut l_Mo_isCut in9_Mo k_Mo_isCut) rfl ⟨rfl, rfl⟩ (by decide +kernel) hR hK hP (0) 6 rfl rfl mw_0 rfl hsz rfl hW hcs hdg kk
set_option maxHeartbeats 4000000 in
set_option maxRecDepth 100000 in
theorem c_Mo_keeps (σ : oS) {n : Nat} (hn : σ 1 0 0 = nI n) (hn9 : n ≤ 5) : ok_MM l y_Mo_keeps (Cond.code y_Mo_keeps b_Mo_keeps 2 none :: tt) { frames := 1, cells := 0, slots := 0, locals := 23 } D vwCl (mt cI cZ) (mw cI cZ ad σ) (mw cI cZ ad (mo_q σ n n)) [.ref (ad 0)] none := by
  refine ok_startM (cc := b_Mo_keeps) (own := RMo) (maxL := 2) (ret := none) (by decide +kernel) rfl rfl (Nat.le_of_ble_eq_true rfl) ?_
  intro p e s m below meth c A F hr hlk hA hP hK hD hS ls hl
  have hl : lv_has ls 2 [(0, .ref (ad 0))] := hl
  have hx := F.1
  have hb := F.2.1
  have lp : ∀ (f k : Nat), k ≤ n → n - k < f → ∀ (H : Heap) (locs : List Loc), va_P D vwCl (mw cI cZ ad (mo_q σ n k)) H → va_D A (mw cI cZ ad (mo_q σ n k)) → va_S A s.heap H locs → ∀ ls : Array Slot, lv_has ls 2 [(1, .int (nI k)), (0, .ref (ad 0))] → W p l e { frames := 1, cells := 0, slots := 0, locals := 23 } s m ([.ref (ad 0)] : List Value).toArray below meth c H locs 0 0 (MQ below (ok_qA D vwCl A (mw cI cZ ad (mo_q σ n n)) none) ([.ref (ad 0)] : List Value).toArray s 0 0 A) (F0 m 19 ls []) := by
    intro f
    induction f with
    | zero => intro k h1 h2; omega
    | succ f ih =>
      intro k h1 h2 H locs hP hD hS ls hl
      refine lv_iload_n hx hb d_Mo_keeps_19 rfl (lv_at hl 0 rfl) ?_
      refine lv_aload_n hx hb d_Mo_keeps_20 rfl (lv_at hl 1 rfl) ?_
      refine gf_Mo_columns F hK hP d_Mo_keeps_21 ?_
      refine lv_icmp_ge (tgt := 45) hx hb d_Mo_keeps_24 (by decide) (fun c1 => ?_) (fun c1 => ?_)
      · have hkn : n = k := by
          rw [mo_q_c (by decide) (by decide) (by decide), hn, nI_leI (by omega) (by omega)] at c1; omega
        subst hkn
        exact ok_vretM F hr hlk hP hD hS d_Mo_keeps_45
      · have hkn : k < n := by
          rw [mo_q_c (by decide) (by decide) (by decide), hn, nI_leI (by omega) (by omega)] at c1; omega
        refine lv_aload_n hx hb d_Mo_keeps_27 rfl (lv_at hl 1 rfl) ?_
        refine gf_Mo_best F hK hP d_Mo_keeps_28 ?_
        refine lv_iload_n hx hb d_Mo_keeps_31 rfl (lv_at hl 0 rfl) ?_
        refine lv_aload_n hx hb d_Mo_keeps_32 rfl (lv_at hl 1 rfl) ?_
        refine gf_Mo_number F hK hP d_Mo_keeps_33 ?_
        refine lv_iload_n hx hb d_Mo_keeps_36 rfl (lv_at hl 0 rfl) ?_
        refine im_20 (j := k) F hK hP rfl (by omega) d_Mo_keeps_37 ?_
        refine sm_21 (j := k) F hK hP hD hS rfl (by omega) d_Mo_keeps_38 (fun H locs hP hD hS => ?_)
        have ew : u3 (mo_q σ n k) 21 0 k ((mo_q σ n k) 20 0 k) = mo_q σ n (k + 1) := by exact mo_q_s
        rw [ew] at hP hD
        clear ew
        refine lv_iinc (v := nI (k + 1)) (lv' := [(1, .int (nI (k + 1))), (0, .ref (ad 0))]) hx hb d_Mo_keeps_39 hl (k := 0) rfl (nI_inc _) (by decide) rfl (fun ls hl => ?_)
        refine lv_goto (tgt := 19) hx hb d_Mo_keeps_42 (by decide) ?_
        exact ih (k + 1) (by omega) (by omega) H locs hP hD hS ls (lv_sub hl [0, 1] rfl)
  refine lv_aload_n hx hb d_Mo_keeps_0 rfl (lv_at hl 0 rfl) ?_
  refine lv_iconst (v := 1) hx hb d_Mo_keeps_1 (by decide) ?_
  refine pf_Mo_found F hK hP hD hS (by rfl) (by rfl) d_Mo_keeps_2 (fun H locs hP hD hS => ?_)
  refine lv_aload_n hx hb d_Mo_keeps_5 rfl (lv_at hl 0 rfl) ?_
  refine lv_aload_n hx hb d_Mo_keeps_6 rfl (lv_at hl 0 rfl) ?_
  refine lv_aload_n hx hb d_Mo_keeps_7 rfl (lv_at hl 0 rfl) ?_
  refine gf_Mo_columns F hK hP d_Mo_keeps_8 ?_
  refine x_Mo_worthOf (m0 := n) (by rw [u3_c (by decide)]; exact hn) (by omega) F (tt4 35 rfl rfl) ⟨Nat.le_of_ble_eq_true rfl, Nat.le_of_ble_eq_true rfl⟩ hK hP hl.1 (Nat.le_of_ble_eq_true rfl) ⟨Nat.zero_le _, Nat.zero_le _⟩ d_Mo_keeps_11 ?_
  refine pf_Mo_bestWorth F hK hP hD hS d_Mo_keeps_14 (fun H locs hP hD hS => ?_)
  have ew : u3 (u3 σ 7 0 0 1) 9 0 0 (mo_w (u3 σ 7 0 0 1) n) = mo_q σ n 0 := by rw [mo_w_7]; exact mo_q_0
  rw [ew] at hP hD
  clear ew
  refine lv_iconst (v := 0) hx hb d_Mo_keeps_17 (by decide) ?_
  refine lv_istore_n (lv' := [(1, .int 0), (0, .ref (ad 0))]) hx hb d_Mo_keeps_18 rfl hl (by decide) rfl (fun ls hl => ?_)
  exact lp (n + 1) 0 (by omega) (by omega) _ _ hP hD hS ls (lv_sub hl [0, 1] rfl)
theorem x_Mo_keeps {σ : oS} {n : Nat} (hn : σ 1 0 0 = nI n) (hn9 : n ≤ 5) (F : CallFix p m c cc nL s args (cw :: tt) own) (hG : Cond.methodLink own index y_Mo_keeps ∈ tt) (hR : 1 + 1 ≤ R.frames ∧ 8 + (2 + 11) + 23 ≤ R.locals) (hK : va_K D vwCl (mt cI cZ) s) (hP : va_P D vwCl (mw cI cZ ad σ) H) (hD : va_D A (mw cI cZ ad σ)) (hS : va_S A H0 H locs) (hA : ∀ q, H0.size ≤ q → A q) (hsz : ls.size = nL) (hW : (rest.map fun v => v.category).sum ≤ 8) (hcs : cells ≤ R.cells ∧ slots ≤ R.slots) (hdg : decode cc pc = .ok (.invokevirtual index, 3)) (kk : ∀ (H1 : Heap) (locs1 : List Loc), va_P D vwCl (mw cI cZ ad (mo_q σ n n)) H1 → va_D A (mw cI cZ ad (mo_q σ n n)) → va_S A H0 H1 locs1 → W p l e R s m args below meth c H1 locs1 cells slots Q (F0 m (pc + 3) ls (rest))) : W p l e R s m args below meth c H locs cells slots Q (F0 m pc ls (.ref (ad 0) :: rest)) :=
  ok_VM (As := []) F (c_Mo_keeps σ hn hn9) 0 (tt_V hG i_Mo_keeps l_Mo_keeps in9_Mo k_Mo_keeps) rfl ⟨rfl, rfl⟩ (by decide +kernel) hR hK hP hD hS hA (0) 6 rfl rfl mw_0 rfl hsz rfl hW hcs hdg kk
end
