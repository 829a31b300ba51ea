-- sums of the reference
def me_1 (τ : oS) (r : Nat) : Nat → Int64
  | 0 => 0
  | k + 1 => me_1 τ r k + Int32.toInt64 (τ 17 0 k) * Int32.toInt64 (mo_r τ r k)
def me_v (τ : oS) (r c : Nat) : Nat → Int64
  | 0 => 1000 * Int32.toInt64 (τ 10 0 c)
  | k + 1 => me_v τ r c k - Int32.toInt64 (τ 17 0 k) * Int32.toInt64 (mo_f τ r k c)
def me_2 (τ : oS) (r u : Nat) : Nat → Int64
  | 0 => me_1 τ r (r + u)
  | c + 1 => if lg_cmp (me_v τ r c (r + u)) 0 ≤ 0 then me_2 τ r u c else me_2 τ r u c + me_v τ r c (r + u) * Int32.toInt64 (τ 11 0 c)
def me_q (x : Int64) : Int64 := if lg_cmp (x / 1000 * 1000) x ≤ 0 then x / 1000 else x / 1000 - 1
def md_D (τ : oS) (r u n : Nat) : Option Nat := ob_first (fun k => mo_h τ r k (mo_s2 τ r k 0 (mo_s1 τ r k 11 0) n) == 0) (r + u) 0
def md_b (x : Int32) (c : Nat) : Int32 := (x >>> ((6 * nI c) &&& 31)) &&& 63
def md_t (τ : oS) (x : Int32) : Nat → oS
  | 0 => τ
  | c + 1 => u3 (md_t τ x c) 23 0 c (md_b x c)
theorem md_t_c {τ : oS} {x : Int32} {k c : Nat} (h : c ≠ 23) : md_t τ x k c = τ c := by
  induction k with
  | zero => rfl
  | succ k ih => rw [md_t, u3_c h, ih]
def md_1 (τ : oS) (n : Nat) (x : Int32) : Option Nat := ob_first (fun c => decide (¬ md_b x c ≤ τ 11 0 c)) n 0
def md_2 (W : oS) (r u n : Nat) : Option Nat := ob_first (fun k => mo_h W r k (mo_s2 W r k n (mo_s1 W r k 14 n) (n - n)) == 0) (r + u) 0
def md_H (τ : oS) (r u n : Nat) (x : Int32) : oS × Int32 := match md_1 τ n x with
  | some c => (md_t τ x (c + 1), 1 + nI c)
  | none => (md_t τ x n, ob_o 0 101 (md_2 (md_t τ x n) r u n))
section
variable {l : Launch} {D : va_G} {cI cZ : ClassId} {ad : Nat → Nat}
variable {p : Program} {e : Env} {R : Room} {s : State} {m : MethodId} {args : Array Value} {below : List Frame} {meth : Method} {c : Code} {H : Heap} {locs : List Loc} {cells slots : Nat} {Q : State → Prop} {cc : ByteArray} {pc nL index : Nat} {ls : Array Slot} {rest : List Value} {A : Nat → Prop} {H0 : Heap} {cw : Cond} {own : String}
set_option maxHeartbeats 4000000 in
set_option maxRecDepth 100000 in
theorem c_Mo_cut (σ : oS) {u : Nat} (h_u : σ 3 0 0 = nI u) (hu4 : u ≤ 4) {x : Int32} {y : Int32} (hu3 : u < 4) (h1 : mo_in x 0 (σ 1 0 0 - 1) = 1) (h2 : mo_in y 0 (σ 1 0 0 - 1) = 1) (h3 : ¬ x = y) (h4 : mo_fc σ x y u = 1) : ok_MM l y_Mo_cut (Cond.code y_Mo_cut b_Mo_cut 5 (some .int) :: tt) { frames := 2, cells := 0, slots := 0, locals := 43 } D vwCl (mt cI cZ) (mw cI cZ ad σ) (mw cI cZ ad (mo_a (mo_z (u3 (u3 (u3 (u3 σ 0 0 0 0) 15 0 u x) 16 0 u y) 3 0 0 (nI (u + 1))) 8))) [.ref (ad 0), .int x, .int y] (some (.int (nI (u + 1)))) := by
  refine ok_startM (cc := b_Mo_cut) (own := RMo) (maxL := 5) (ret := (some .int)) (by decide +kernel) rfl rfl (Nat.le_of_ble_eq_true rfl) ?_
  intro p e s m below meth c A F hr hlk hA hP hK hD hS ls hl
  have hl : lv_has ls 5 [(0, .ref (ad 0)), (1, .int x), (2, .int y)] := hl
  have hx := F.1
  have hb := F.2.1
  have lp : ∀ (f k : Nat), k ≤ u → u - k < f → ∀ ls : Array Slot, lv_has ls 5 [(4, .int (nI k)), (3, .int (mo_fc σ x y k)), (0, .ref (ad 0)), (1, .int x), (2, .int y)] → W p l e { frames := 2, cells := 0, slots := 0, locals := 43 } s m ([.ref (ad 0), .int x, .int y] : List Value).toArray below meth c s.heap [] 0 0 (MQ below (ok_qA D vwCl A (mw cI cZ ad (mo_a (mo_z (u3 (u3 (u3 (u3 σ 0 0 0 0) 15 0 u x) 16 0 u y) 3 0 0 (nI (u + 1))) 8))) (some (.int (nI (u + 1))))) ([.ref (ad 0), .int x, .int y] : List Value).toArray s 0 0 A) (F0 m 17 ls []) := by
    intro f
    induction f with
    | zero => intro k h1 h2; omega
    | succ f ih =>
      intro k hk1 hk2 ls hl
      refine lv_iload hx hb d_Mo_cut_17 (lv_at hl 0 rfl) ?_
      refine lv_aload_n hx hb d_Mo_cut_19 rfl (lv_at hl 2 rfl) ?_
      refine gf_Mo_cuts F hK hP d_Mo_cut_20 ?_
      refine lv_icmp_ge (tgt := 78) hx hb d_Mo_cut_23 (by decide) (fun c1 => ?_) (fun c1 => ?_)
      · have hkn : u = k := by
          rw [h_u, nI_leI (by omega) (by omega)] at c1; omega
        subst hkn
        refine lv_aload_n hx hb d_Mo_cut_78 rfl (lv_at hl 2 rfl) ?_
        refine lv_aload_n hx hb d_Mo_cut_79 rfl (lv_at hl 2 rfl) ?_
        refine lv_iload_n hx hb d_Mo_cut_80 rfl (lv_at hl 3 rfl) ?_
        refine x_Mo_isColumn F (tt4 14 rfl rfl) ⟨Nat.le_of_ble_eq_true rfl, Nat.le_of_ble_eq_true rfl⟩ hK hP hl.1 (Nat.le_of_ble_eq_true rfl) ⟨Nat.zero_le _, Nat.zero_le _⟩ d_Mo_cut_81 ?_
        refine lv_if_eq (tgt := 104) hx hb d_Mo_cut_84 (by decide) (fun c2 => ?_) (fun c2 => ?_)
        · first | exact absurd c2 (by rw [h1]; decide) | exact absurd c2 (by rw [h2]; decide) | exact absurd c2 h3
        · refine lv_aload_n hx hb d_Mo_cut_87 rfl (lv_at hl 2 rfl) ?_
          refine lv_iload_n hx hb d_Mo_cut_88 rfl (lv_at hl 4 rfl) ?_
          refine x_Mo_isColumn F (tt4 14 rfl rfl) ⟨Nat.le_of_ble_eq_true rfl, Nat.le_of_ble_eq_true rfl⟩ hK hP hl.1 (Nat.le_of_ble_eq_true rfl) ⟨Nat.zero_le _, Nat.zero_le _⟩ d_Mo_cut_89 ?_
          refine lv_if_eq (tgt := 104) hx hb d_Mo_cut_92 (by decide) (fun c3 => ?_) (fun c3 => ?_)
          · first | exact absurd c3 (by rw [h1]; decide) | exact absurd c3 (by rw [h2]; decide) | exact absurd c3 h3
          · refine lv_iload_n hx hb d_Mo_cut_95 rfl (lv_at hl 3 rfl) ?_
            refine lv_iload_n hx hb d_Mo_cut_96 rfl (lv_at hl 4 rfl) ?_
            refine lv_icmp_eq (tgt := 104) hx hb d_Mo_cut_97 (by decide) (fun c4 => ?_) (fun c4 => ?_)
            · first | exact absurd c4 (by rw [h1]; decide) | exact absurd c4 (by rw [h2]; decide) | exact absurd c4 h3
            · refine lv_iconst (v := 1) hx hb d_Mo_cut_100 (by decide) ?_
              refine lv_goto (tgt := 105) hx hb d_Mo_cut_101 (by decide) ?_
              refine lv_iload_n hx hb d_Mo_cut_105 rfl (lv_at hl 1 rfl) ?_
              refine x_Mo_goes F (tt3 230 rfl rfl) ⟨Nat.le_of_ble_eq_true rfl, Nat.le_of_ble_eq_true rfl⟩ hK hP hD hS hA hl.1 (Nat.le_of_ble_eq_true rfl) ⟨Nat.zero_le _, Nat.zero_le _⟩ d_Mo_cut_106 (fun H locs hP hD hS => ?_)
              have ew : u3 σ 0 0 0 (mo_g 1 (mo_fc σ x y u)) = u3 σ 0 0 0 0 := by rw [h4]; simp [mo_g]
              rw [ew] at hP hD
              clear ew
              refine lv_if_ne (tgt := 114) hx hb d_Mo_cut_109 (by decide) (fun c5 => ?_) (fun c5 => ?_)
              · refine lv_aload_n hx hb d_Mo_cut_114 rfl (lv_at hl 2 rfl) ?_
                refine gf_Mo_cutA F hK hP d_Mo_cut_115 ?_
                refine lv_aload_n hx hb d_Mo_cut_118 rfl (lv_at hl 2 rfl) ?_
                refine gf_Mo_cuts F hK hP d_Mo_cut_119 ?_
                refine lv_iload_n hx hb d_Mo_cut_122 rfl (lv_at hl 3 rfl) ?_
                refine sm_15 (j := u) F hK hP hD hS (by rw [u3_c (by decide)]; exact h_u) (by omega) d_Mo_cut_123 (fun H locs hP hD hS => ?_)
                refine lv_aload_n hx hb d_Mo_cut_124 rfl (lv_at hl 2 rfl) ?_
                refine gf_Mo_cutB F hK hP d_Mo_cut_125 ?_
                refine lv_aload_n hx hb d_Mo_cut_128 rfl (lv_at hl 2 rfl) ?_
                refine gf_Mo_cuts F hK hP d_Mo_cut_129 ?_
                refine lv_iload_n hx hb d_Mo_cut_132 rfl (lv_at hl 4 rfl) ?_
                refine sm_16 (j := u) F hK hP hD hS (by rw [u3_c (by decide), u3_c (by decide)]; exact h_u) (by omega) d_Mo_cut_133 (fun H locs hP hD hS => ?_)
                refine lv_aload_n hx hb d_Mo_cut_134 rfl (lv_at hl 2 rfl) ?_
                refine lv_dup hx hb d_Mo_cut_135 rfl ?_
                refine gf_Mo_cuts F hK hP d_Mo_cut_136 ?_
                refine lv_iconst (v := 1) hx hb d_Mo_cut_139 (by decide) ?_
                refine lv_iadd hx hb d_Mo_cut_140 ?_
                refine pf_Mo_cuts F hK hP hD hS d_Mo_cut_141 (fun H locs hP hD hS => ?_)
                have ew : u3 (u3 (u3 (u3 σ 0 0 0 0) 15 0 u x) 16 0 u y) 3 0 0 (((u3 (u3 (u3 σ 0 0 0 0) 15 0 u x) 16 0 u y) 3 0 0) + 1) = u3 (u3 (u3 (u3 σ 0 0 0 0) 15 0 u x) 16 0 u y) 3 0 0 (nI (u + 1)) := by congr 1; simp [u3_at, h_u, nI_1]
                rw [ew] at hP hD
                clear ew
                refine lv_aload_n hx hb d_Mo_cut_144 rfl (lv_at hl 2 rfl) ?_
                refine x_Mo_noMultipliers F (tt4 2 rfl rfl) ⟨Nat.le_of_ble_eq_true rfl, Nat.le_of_ble_eq_true rfl⟩ hK hP hD hS hA hl.1 (Nat.le_of_ble_eq_true rfl) ⟨Nat.zero_le _, Nat.zero_le _⟩ d_Mo_cut_145 (fun H locs hP hD hS => ?_)
                refine lv_aload_n hx hb d_Mo_cut_148 rfl (lv_at hl 2 rfl) ?_
                refine x_Mo_anew F (tt3 234 rfl rfl) ⟨Nat.le_of_ble_eq_true rfl, Nat.le_of_ble_eq_true rfl⟩ hK hP hD hS hA hl.1 (Nat.le_of_ble_eq_true rfl) ⟨Nat.zero_le _, Nat.zero_le _⟩ d_Mo_cut_149 (fun H locs hP hD hS => ?_)
                refine lv_aload_n hx hb d_Mo_cut_152 rfl (lv_at hl 2 rfl) ?_
                refine gf_Mo_cuts F hK hP d_Mo_cut_153 ?_
                exact ok_iretM F hr hlk hP hD hS (by simp [mo_a, u3_at, mo_z_c]) d_Mo_cut_156
              · exact absurd c5 (by rw [h4]; simp [mo_g])
      · have hkn : k < u := by
          rw [h_u, nI_leI (by omega) (by omega)] at c1; omega
        refine lv_aload_n hx hb d_Mo_cut_26 rfl (lv_at hl 2 rfl) ?_
        refine gf_Mo_cutA F hK hP d_Mo_cut_27 ?_
        refine lv_iload hx hb d_Mo_cut_30 (lv_at hl 0 rfl) ?_
        refine im_15 (j := k) F hK hP rfl (by omega) d_Mo_cut_32 ?_
        refine lv_iload_n hx hb d_Mo_cut_33 rfl (lv_at hl 3 rfl) ?_
        refine lv_icmp_ne (tgt := 48) hx hb d_Mo_cut_34 (by decide) (fun c6 => ?_) (fun c6 => ?_)
        · refine lv_aload_n hx hb d_Mo_cut_48 rfl (lv_at hl 2 rfl) ?_
          refine gf_Mo_cutA F hK hP d_Mo_cut_49 ?_
          refine lv_iload hx hb d_Mo_cut_52 (lv_at hl 0 rfl) ?_
          refine im_15 (j := k) F hK hP rfl (by omega) d_Mo_cut_54 ?_
          refine lv_iload_n hx hb d_Mo_cut_55 rfl (lv_at hl 4 rfl) ?_
          refine lv_icmp_ne (tgt := 72) hx hb d_Mo_cut_56 (by decide) (fun c7 => ?_) (fun c7 => ?_)
          · refine lv_iinc (v := nI (k + 1)) (lv' := [(4, .int (nI (k + 1))), (3, .int (mo_fc σ x y k)), (0, .ref (ad 0)), (1, .int x), (2, .int y)]) hx hb d_Mo_cut_72 hl (k := 0) rfl (nI_inc _) (by decide) rfl (fun ls hl => ?_)
            refine lv_goto (tgt := 17) hx hb d_Mo_cut_75 (by decide) ?_
            have e9 : mo_fc σ x y (k + 1) = mo_fc σ x y k := by
              rw [mo_fc]; rw [if_neg (by intro h; rcases h with ⟨a, b⟩ | ⟨a, b⟩ <;> first | exact c6 a | exact c6 b | exact c7 a | exact c7 b)]
            exact ih (k + 1) (by omega) (by omega) ls (by rw [e9]; exact (lv_sub hl [0, 1, 2, 3, 4] rfl))
          · refine lv_aload_n hx hb d_Mo_cut_59 rfl (lv_at hl 2 rfl) ?_
            refine gf_Mo_cutB F hK hP d_Mo_cut_60 ?_
            refine lv_iload hx hb d_Mo_cut_63 (lv_at hl 0 rfl) ?_
            refine im_16 (j := k) F hK hP rfl (by omega) d_Mo_cut_65 ?_
            refine lv_iload_n hx hb d_Mo_cut_66 rfl (lv_at hl 3 rfl) ?_
            refine lv_icmp_ne (tgt := 72) hx hb d_Mo_cut_67 (by decide) (fun c8 => ?_) (fun c8 => ?_)
            · refine lv_iinc (v := nI (k + 1)) (lv' := [(4, .int (nI (k + 1))), (3, .int (mo_fc σ x y k)), (0, .ref (ad 0)), (1, .int x), (2, .int y)]) hx hb d_Mo_cut_72 hl (k := 0) rfl (nI_inc _) (by decide) rfl (fun ls hl => ?_)
              refine lv_goto (tgt := 17) hx hb d_Mo_cut_75 (by decide) ?_
              have e9 : mo_fc σ x y (k + 1) = mo_fc σ x y k := by
                rw [mo_fc]; rw [if_neg (by intro h; rcases h with ⟨a, b⟩ | ⟨a, b⟩ <;> first | exact c6 a | exact c6 b | exact c7 a | exact c7 b | exact c8 a | exact c8 b)]
              exact ih (k + 1) (by omega) (by omega) ls (by rw [e9]; exact (lv_sub hl [0, 1, 2, 3, 4] rfl))
            · refine lv_iconst (v := 0) hx hb d_Mo_cut_70 (by decide) ?_
              refine lv_istore_n (lv' := [(3, .int 0), (4, .int (nI k)), (0, .ref (ad 0)), (1, .int x), (2, .int y)]) hx hb d_Mo_cut_71 rfl hl (by decide) rfl (fun ls hl => ?_)
              refine lv_iinc (v := nI (k + 1)) (lv' := [(4, .int (nI (k + 1))), (3, .int 0), (0, .ref (ad 0)), (1, .int x), (2, .int y)]) hx hb d_Mo_cut_72 hl (k := 1) rfl (nI_inc _) (by decide) rfl (fun ls hl => ?_)
              refine lv_goto (tgt := 17) hx hb d_Mo_cut_75 (by decide) ?_
              have e9 : mo_fc σ x y (k + 1) = 0 := by
                rw [mo_fc]; rw [if_pos (by first | exact Or.inl ⟨c7, c8⟩ | exact Or.inr ⟨c7, c8⟩)]
              exact ih (k + 1) (by omega) (by omega) ls (by rw [e9]; exact (lv_sub hl [0, 1, 2, 3, 4] rfl))
        · refine lv_aload_n hx hb d_Mo_cut_37 rfl (lv_at hl 2 rfl) ?_
          refine gf_Mo_cutB F hK hP d_Mo_cut_38 ?_
          refine lv_iload hx hb d_Mo_cut_41 (lv_at hl 0 rfl) ?_
          refine im_16 (j := k) F hK hP rfl (by omega) d_Mo_cut_43 ?_
          refine lv_iload_n hx hb d_Mo_cut_44 rfl (lv_at hl 4 rfl) ?_
          refine lv_icmp_eq (tgt := 70) hx hb d_Mo_cut_45 (by decide) (fun c9 => ?_) (fun c9 => ?_)
          · refine lv_iconst (v := 0) hx hb d_Mo_cut_70 (by decide) ?_
            refine lv_istore_n (lv' := [(3, .int 0), (4, .int (nI k)), (0, .ref (ad 0)), (1, .int x), (2, .int y)]) hx hb d_Mo_cut_71 rfl hl (by decide) rfl (fun ls hl => ?_)
            refine lv_iinc (v := nI (k + 1)) (lv' := [(4, .int (nI (k + 1))), (3, .int 0), (0, .ref (ad 0)), (1, .int x), (2, .int y)]) hx hb d_Mo_cut_72 hl (k := 1) rfl (nI_inc _) (by decide) rfl (fun ls hl => ?_)
            refine lv_goto (tgt := 17) hx hb d_Mo_cut_75 (by decide) ?_
            have e9 : mo_fc σ x y (k + 1) = 0 := by
              rw [mo_fc]; rw [if_pos (by first | exact Or.inl ⟨c6, c9⟩ | exact Or.inr ⟨c6, c9⟩)]
            exact ih (k + 1) (by omega) (by omega) ls (by rw [e9]; exact (lv_sub hl [0, 1, 2, 3, 4] rfl))
          · refine lv_aload_n hx hb d_Mo_cut_48 rfl (lv_at hl 2 rfl) ?_
            refine gf_Mo_cutA F hK hP d_Mo_cut_49 ?_
            refine lv_iload hx hb d_Mo_cut_52 (lv_at hl 0 rfl) ?_
            refine im_15 (j := k) F hK hP rfl (by omega) d_Mo_cut_54 ?_
            refine lv_iload_n hx hb d_Mo_cut_55 rfl (lv_at hl 4 rfl) ?_
            refine lv_icmp_ne (tgt := 72) hx hb d_Mo_cut_56 (by decide) (fun c10 => ?_) (fun c10 => ?_)
            · refine lv_iinc (v := nI (k + 1)) (lv' := [(4, .int (nI (k + 1))), (3, .int (mo_fc σ x y k)), (0, .ref (ad 0)), (1, .int x), (2, .int y)]) hx hb d_Mo_cut_72 hl (k := 0) rfl (nI_inc _) (by decide) rfl (fun ls hl => ?_)
              refine lv_goto (tgt := 17) hx hb d_Mo_cut_75 (by decide) ?_
              have e9 : mo_fc σ x y (k + 1) = mo_fc σ x y k := by
                rw [mo_fc]; rw [if_neg (by intro h; rcases h with ⟨a, b⟩ | ⟨a, b⟩ <;> first | exact c6 a | exact c6 b | exact c9 a | exact c9 b | exact c10 a | exact c10 b)]
              exact ih (k + 1) (by omega) (by omega) ls (by rw [e9]; exact (lv_sub hl [0, 1, 2, 3, 4] rfl))
            · refine lv_aload_n hx hb d_Mo_cut_59 rfl (lv_at hl 2 rfl) ?_
              refine gf_Mo_cutB F hK hP d_Mo_cut_60 ?_
              refine lv_iload hx hb d_Mo_cut_63 (lv_at hl 0 rfl) ?_
              refine im_16 (j := k) F hK hP rfl (by omega) d_Mo_cut_65 ?_
              refine lv_iload_n hx hb d_Mo_cut_66 rfl (lv_at hl 3 rfl) ?_
              refine lv_icmp_ne (tgt := 72) hx hb d_Mo_cut_67 (by decide) (fun c11 => ?_) (fun c11 => ?_)
              · refine lv_iinc (v := nI (k + 1)) (lv' := [(4, .int (nI (k + 1))), (3, .int (mo_fc σ x y k)), (0, .ref (ad 0)), (1, .int x), (2, .int y)]) hx hb d_Mo_cut_72 hl (k := 0) rfl (nI_inc _) (by decide) rfl (fun ls hl => ?_)
                refine lv_goto (tgt := 17) hx hb d_Mo_cut_75 (by decide) ?_
                have e9 : mo_fc σ x y (k + 1) = mo_fc σ x y k := by
                  rw [mo_fc]; rw [if_neg (by intro h; rcases h with ⟨a, b⟩ | ⟨a, b⟩ <;> first | exact c6 a | exact c6 b | exact c9 a | exact c9 b | exact c10 a | exact c10 b | exact c11 a | exact c11 b)]
                exact ih (k + 1) (by omega) (by omega) ls (by rw [e9]; exact (lv_sub hl [0, 1, 2, 3, 4] rfl))
              · refine lv_iconst (v := 0) hx hb d_Mo_cut_70 (by decide) ?_
                refine lv_istore_n (lv' := [(3, .int 0), (4, .int (nI k)), (0, .ref (ad 0)), (1, .int x), (2, .int y)]) hx hb d_Mo_cut_71 rfl hl (by decide) rfl (fun ls hl => ?_)
                refine lv_iinc (v := nI (k + 1)) (lv' := [(4, .int (nI (k + 1))), (3, .int 0), (0, .ref (ad 0)), (1, .int x), (2, .int y)]) hx hb d_Mo_cut_72 hl (k := 1) rfl (nI_inc _) (by decide) rfl (fun ls hl => ?_)
                refine lv_goto (tgt := 17) hx hb d_Mo_cut_75 (by decide) ?_
                have e9 : mo_fc σ x y (k + 1) = 0 := by
                  rw [mo_fc]; rw [if_pos (by first | exact Or.inl ⟨c10, c11⟩ | exact Or.inr ⟨c10, c11⟩)]
                exact ih (k + 1) (by omega) (by omega) ls (by rw [e9]; exact (lv_sub hl [0, 1, 2, 3, 4] rfl))
  refine lv_aload_n hx hb d_Mo_cut_0 rfl (lv_at hl 0 rfl) ?_
  refine gf_Mo_cuts F hK hP d_Mo_cut_1 ?_
  refine lv_iconst (v := 4) hx hb d_Mo_cut_4 (by decide) ?_
  refine lv_icmp_ge (tgt := 12) hx hb d_Mo_cut_5 (by decide) (fun c12 => ?_) (fun c12 => ?_)
  · refine lv_iconst (v := 0) hx hb d_Mo_cut_12 (by decide) ?_
    refine lv_istore_n (lv' := [(3, .int 0), (0, .ref (ad 0)), (1, .int x), (2, .int y)]) hx hb d_Mo_cut_13 rfl hl (by decide) rfl (fun ls hl => ?_)
    refine lv_iconst (v := 0) hx hb d_Mo_cut_14 (by decide) ?_
    refine lv_istore (lv' := [(4, .int 0), (3, .int 0), (0, .ref (ad 0)), (1, .int x), (2, .int y)]) hx hb d_Mo_cut_15 hl (by decide) rfl (fun ls hl => ?_)
    exact lp (u + 1) 0 (by omega) (by omega) ls (by rw [show mo_fc σ x y 0 = 0 by unfold mo_fc; first | rw [if_pos c12] | rw [if_neg c12]]; exact (lv_sub hl [0, 1, 2, 3, 4] rfl))
  · refine lv_iconst (v := 1) hx hb d_Mo_cut_8 (by decide) ?_
    refine lv_goto (tgt := 13) hx hb d_Mo_cut_9 (by decide) ?_
    refine lv_istore_n (lv' := [(3, .int 1), (0, .ref (ad 0)), (1, .int x), (2, .int y)]) hx hb d_Mo_cut_13 rfl hl (by decide) rfl (fun ls hl => ?_)
    refine lv_iconst (v := 0) hx hb d_Mo_cut_14 (by decide) ?_
    refine lv_istore (lv' := [(4, .int 0), (3, .int 1), (0, .ref (ad 0)), (1, .int x), (2, .int y)]) hx hb d_Mo_cut_15 hl (by decide) rfl (fun ls hl => ?_)
    exact lp (u + 1) 0 (by omega) (by omega) ls (by rw [show mo_fc σ x y 0 = 1 by unfold mo_fc; first | rw [if_pos c12] | rw [if_neg c12]]; exact (lv_sub hl [0, 1, 2, 3, 4] rfl))
theorem x_Mo_cut {σ : oS} {u : Nat} (h_u : σ 3 0 0 = nI u) (hu4 : u ≤ 4) {x : Int32} {y : Int32} (hu3 : u < 4) (h1 : mo_in x 0 (σ 1 0 0 - 1) = 1) (h2 : mo_in y 0 (σ 1 0 0 - 1) = 1) (h3 : ¬ x = y) (h4 : mo_fc σ x y u = 1) (F : CallFix p m c cc nL s args (cw :: tt) own) (hG : Cond.methodLink own index y_Mo_cut ∈ tt) (hR : 2 + 1 ≤ R.frames ∧ 8 + (5 + 11) + 43 ≤ R.locals) (hK : va_K D vwCl (mt cI cZ) s) (hP : va_P D vwCl (mw cI cZ ad σ) H) (hD : va_D A (mw cI cZ ad σ)) (hS : va_S A H0 H locs) (hA : ∀ q, H0.size ≤ q → A q) (hsz : ls.size = nL) (hW : (rest.map fun v => v.category).sum ≤ 8) (hcs : cells ≤ R.cells ∧ slots ≤ R.slots) (hdg : decode cc pc = .ok (.invokevirtual index, 3)) (kk : ∀ (H1 : Heap) (locs1 : List Loc), va_P D vwCl (mw cI cZ ad (mo_a (mo_z (u3 (u3 (u3 (u3 σ 0 0 0 0) 15 0 u x) 16 0 u y) 3 0 0 (nI (u + 1))) 8))) H1 → va_D A (mw cI cZ ad (mo_a (mo_z (u3 (u3 (u3 (u3 σ 0 0 0 0) 15 0 u x) 16 0 u y) 3 0 0 (nI (u + 1))) 8))) → va_S A H0 H1 locs1 → W p l e R s m args below meth c H1 locs1 cells slots Q (F0 m (pc + 3) ls (.int (nI (u + 1)) :: rest))) : W p l e R s m args below meth c H locs cells slots Q (F0 m pc ls (.int y :: .int x :: .ref (ad 0) :: rest)) :=
  ok_VM (As := [.int x, .int y]) F (c_Mo_cut σ h_u hu4 hu3 h1 h2 h3 h4) 2 (tt_V hG i_Mo_cut l_Mo_cut in9_Mo k_Mo_cut) rfl ⟨rfl, rfl⟩ (by decide +kernel) hR hK hP hD hS hA (0) 6 rfl rfl mw_0 rfl hsz rfl hW hcs hdg kk
set_option maxHeartbeats 4000000 in
set_option maxRecDepth 100000 in
theorem c_Mo_cut_1 (σ : oS) {u : Nat} (h_u : σ 3 0 0 = nI u) (hu4 : u ≤ 4) {x : Int32} {y : Int32} (hone : mo_in x 0 (σ 1 0 0 - 1) = 0 ∨ mo_in y 0 (σ 1 0 0 - 1) = 0 ∨ x = y) : ok_MM l y_Mo_cut (Cond.code y_Mo_cut b_Mo_cut 5 (some .int) :: tt) { frames := 2, cells := 0, slots := 0, locals := 43 } D vwCl (mt cI cZ) (mw cI cZ ad σ) (mw cI cZ ad (u3 σ 0 0 0 1)) [.ref (ad 0), .int x, .int y] (some (.int 0)) := by
  refine ok_startM (cc := b_Mo_cut) (own := RMo) (maxL := 5) (ret := (some .int)) (by decide +kernel) rfl rfl (Nat.le_of_ble_eq_true rfl) ?_
  intro p e s m below meth c A F hr hlk hA hP hK hD hS ls hl
  have hl : lv_has ls 5 [(0, .ref (ad 0)), (1, .int x), (2, .int y)] := hl
  have hx := F.1
  have hb := F.2.1
  have lp : ∀ (f k : Nat), k ≤ u → u - k < f → ∀ ls : Array Slot, lv_has ls 5 [(4, .int (nI k)), (3, .int (mo_fc σ x y k)), (0, .ref (ad 0)), (1, .int x), (2, .int y)] → W p l e { frames := 2, cells := 0, slots := 0, locals := 43 } s m ([.ref (ad 0), .int x, .int y] : List Value).toArray below meth c s.heap [] 0 0 (MQ below (ok_qA D vwCl A (mw cI cZ ad (u3 σ 0 0 0 1)) (some (.int 0))) ([.ref (ad 0), .int x, .int y] : List Value).toArray s 0 0 A) (F0 m 17 ls []) := by
    intro f
    induction f with
    | zero => intro k h1 h2; omega
    | succ f ih =>
      intro k hk1 hk2 ls hl
      refine lv_iload hx hb d_Mo_cut_17 (lv_at hl 0 rfl) ?_
      refine lv_aload_n hx hb d_Mo_cut_19 rfl (lv_at hl 2 rfl) ?_
      refine gf_Mo_cuts F hK hP d_Mo_cut_20 ?_
      refine lv_icmp_ge (tgt := 78) hx hb d_Mo_cut_23 (by decide) (fun c1 => ?_) (fun c1 => ?_)
      · have hkn : u = k := by
          rw [h_u, nI_leI (by omega) (by omega)] at c1; omega
        subst hkn
        refine lv_aload_n hx hb d_Mo_cut_78 rfl (lv_at hl 2 rfl) ?_
        refine lv_aload_n hx hb d_Mo_cut_79 rfl (lv_at hl 2 rfl) ?_
        refine lv_iload_n hx hb d_Mo_cut_80 rfl (lv_at hl 3 rfl) ?_
        refine x_Mo_isColumn F (tt4 14 rfl rfl) ⟨Nat.le_of_ble_eq_true rfl, Nat.le_of_ble_eq_true rfl⟩ hK hP hl.1 (Nat.le_of_ble_eq_true rfl) ⟨Nat.zero_le _, Nat.zero_le _⟩ d_Mo_cut_81 ?_
        refine lv_if_eq (tgt := 104) hx hb d_Mo_cut_84 (by decide) (fun c2 => ?_) (fun c2 => ?_)
        · refine lv_iconst (v := 0) hx hb d_Mo_cut_104 (by decide) ?_
          refine lv_iload_n hx hb d_Mo_cut_105 rfl (lv_at hl 1 rfl) ?_
          refine x_Mo_goes F (tt3 230 rfl rfl) ⟨Nat.le_of_ble_eq_true rfl, Nat.le_of_ble_eq_true rfl⟩ hK hP hD hS hA hl.1 (Nat.le_of_ble_eq_true rfl) ⟨Nat.zero_le _, Nat.zero_le _⟩ d_Mo_cut_106 (fun H locs hP hD hS => ?_)
          have ew : u3 σ 0 0 0 (mo_g 0 (mo_fc σ x y u)) = u3 σ 0 0 0 1 := by simp [mo_g]
          rw [ew] at hP hD
          clear ew
          refine lv_if_ne (tgt := 114) hx hb d_Mo_cut_109 (by decide) (fun c3 => ?_) (fun c3 => ?_)
          · exact absurd (by simp [mo_g]) c3
          · refine lv_iconst (v := 0) hx hb d_Mo_cut_112 (by decide) ?_
            exact ok_iretM F hr hlk hP hD hS (rfl) d_Mo_cut_113
        · refine lv_aload_n hx hb d_Mo_cut_87 rfl (lv_at hl 2 rfl) ?_
          refine lv_iload_n hx hb d_Mo_cut_88 rfl (lv_at hl 4 rfl) ?_
          refine x_Mo_isColumn F (tt4 14 rfl rfl) ⟨Nat.le_of_ble_eq_true rfl, Nat.le_of_ble_eq_true rfl⟩ hK hP hl.1 (Nat.le_of_ble_eq_true rfl) ⟨Nat.zero_le _, Nat.zero_le _⟩ d_Mo_cut_89 ?_
          refine lv_if_eq (tgt := 104) hx hb d_Mo_cut_92 (by decide) (fun c4 => ?_) (fun c4 => ?_)
          · refine lv_iconst (v := 0) hx hb d_Mo_cut_104 (by decide) ?_
            refine lv_iload_n hx hb d_Mo_cut_105 rfl (lv_at hl 1 rfl) ?_
            refine x_Mo_goes F (tt3 230 rfl rfl) ⟨Nat.le_of_ble_eq_true rfl, Nat.le_of_ble_eq_true rfl⟩ hK hP hD hS hA hl.1 (Nat.le_of_ble_eq_true rfl) ⟨Nat.zero_le _, Nat.zero_le _⟩ d_Mo_cut_106 (fun H locs hP hD hS => ?_)
            have ew : u3 σ 0 0 0 (mo_g 0 (mo_fc σ x y u)) = u3 σ 0 0 0 1 := by simp [mo_g]
            rw [ew] at hP hD
            clear ew
            refine lv_if_ne (tgt := 114) hx hb d_Mo_cut_109 (by decide) (fun c5 => ?_) (fun c5 => ?_)
            · exact absurd (by simp [mo_g]) c5
            · refine lv_iconst (v := 0) hx hb d_Mo_cut_112 (by decide) ?_
              exact ok_iretM F hr hlk hP hD hS (rfl) d_Mo_cut_113
          · refine lv_iload_n hx hb d_Mo_cut_95 rfl (lv_at hl 3 rfl) ?_
            refine lv_iload_n hx hb d_Mo_cut_96 rfl (lv_at hl 4 rfl) ?_
            refine lv_icmp_eq (tgt := 104) hx hb d_Mo_cut_97 (by decide) (fun c6 => ?_) (fun c6 => ?_)
            · refine lv_iconst (v := 0) hx hb d_Mo_cut_104 (by decide) ?_
              refine lv_iload_n hx hb d_Mo_cut_105 rfl (lv_at hl 1 rfl) ?_
              refine x_Mo_goes F (tt3 230 rfl rfl) ⟨Nat.le_of_ble_eq_true rfl, Nat.le_of_ble_eq_true rfl⟩ hK hP hD hS hA hl.1 (Nat.le_of_ble_eq_true rfl) ⟨Nat.zero_le _, Nat.zero_le _⟩ d_Mo_cut_106 (fun H locs hP hD hS => ?_)
              have ew : u3 σ 0 0 0 (mo_g 0 (mo_fc σ x y u)) = u3 σ 0 0 0 1 := by simp [mo_g]
              rw [ew] at hP hD
              clear ew
              refine lv_if_ne (tgt := 114) hx hb d_Mo_cut_109 (by decide) (fun c7 => ?_) (fun c7 => ?_)
              · exact absurd (by simp [mo_g]) c7
              · refine lv_iconst (v := 0) hx hb d_Mo_cut_112 (by decide) ?_
                exact ok_iretM F hr hlk hP hD hS (rfl) d_Mo_cut_113
            · exact absurd hone (fun q => q.elim c2 (fun q => q.elim c4 c6))
      · have hkn : k < u := by
          rw [h_u, nI_leI (by omega) (by omega)] at c1; omega
        refine lv_aload_n hx hb d_Mo_cut_26 rfl (lv_at hl 2 rfl) ?_
        refine gf_Mo_cutA F hK hP d_Mo_cut_27 ?_
        refine lv_iload hx hb d_Mo_cut_30 (lv_at hl 0 rfl) ?_
        refine im_15 (j := k) F hK hP rfl (by omega) d_Mo_cut_32 ?_
        refine lv_iload_n hx hb d_Mo_cut_33 rfl (lv_at hl 3 rfl) ?_
        refine lv_icmp_ne (tgt := 48) hx hb d_Mo_cut_34 (by decide) (fun c8 => ?_) (fun c8 => ?_)
        · refine lv_aload_n hx hb d_Mo_cut_48 rfl (lv_at hl 2 rfl) ?_
          refine gf_Mo_cutA F hK hP d_Mo_cut_49 ?_
          refine lv_iload hx hb d_Mo_cut_52 (lv_at hl 0 rfl) ?_
          refine im_15 (j := k) F hK hP rfl (by omega) d_Mo_cut_54 ?_
          refine lv_iload_n hx hb d_Mo_cut_55 rfl (lv_at hl 4 rfl) ?_
          refine lv_icmp_ne (tgt := 72) hx hb d_Mo_cut_56 (by decide) (fun c9 => ?_) (fun c9 => ?_)
          · refine lv_iinc (v := nI (k + 1)) (lv' := [(4, .int (nI (k + 1))), (3, .int (mo_fc σ x y k)), (0, .ref (ad 0)), (1, .int x), (2, .int y)]) hx hb d_Mo_cut_72 hl (k := 0) rfl (nI_inc _) (by decide) rfl (fun ls hl => ?_)
            refine lv_goto (tgt := 17) hx hb d_Mo_cut_75 (by decide) ?_
            have e9 : mo_fc σ x y (k + 1) = mo_fc σ x y k := by
              rw [mo_fc]; rw [if_neg (by intro h; rcases h with ⟨a, b⟩ | ⟨a, b⟩ <;> first | exact c8 a | exact c8 b | exact c9 a | exact c9 b)]
            exact ih (k + 1) (by omega) (by omega) ls (by rw [e9]; exact (lv_sub hl [0, 1, 2, 3, 4] rfl))
          · refine lv_aload_n hx hb d_Mo_cut_59 rfl (lv_at hl 2 rfl) ?_
            refine gf_Mo_cutB F hK hP d_Mo_cut_60 ?_
            refine lv_iload hx hb d_Mo_cut_63 (lv_at hl 0 rfl) ?_
            refine im_16 (j := k) F hK hP rfl (by omega) d_Mo_cut_65 ?_
            refine lv_iload_n hx hb d_Mo_cut_66 rfl (lv_at hl 3 rfl) ?_
            refine lv_icmp_ne (tgt := 72) hx hb d_Mo_cut_67 (by decide) (fun c10 => ?_) (fun c10 => ?_)
            · refine lv_iinc (v := nI (k + 1)) (lv' := [(4, .int (nI (k + 1))), (3, .int (mo_fc σ x y k)), (0, .ref (ad 0)), (1, .int x), (2, .int y)]) hx hb d_Mo_cut_72 hl (k := 0) rfl (nI_inc _) (by decide) rfl (fun ls hl => ?_)
              refine lv_goto (tgt := 17) hx hb d_Mo_cut_75 (by decide) ?_
              have e9 : mo_fc σ x y (k + 1) = mo_fc σ x y k := by
                rw [mo_fc]; rw [if_neg (by intro h; rcases h with ⟨a, b⟩ | ⟨a, b⟩ <;> first | exact c8 a | exact c8 b | exact c9 a | exact c9 b | exact c10 a | exact c10 b)]
              exact ih (k + 1) (by omega) (by omega) ls (by rw [e9]; exact (lv_sub hl [0, 1, 2, 3, 4] rfl))
            · refine lv_iconst (v := 0) hx hb d_Mo_cut_70 (by decide) ?_
              refine lv_istore_n (lv' := [(3, .int 0), (4, .int (nI k)), (0, .ref (ad 0)), (1, .int x), (2, .int y)]) hx hb d_Mo_cut_71 rfl hl (by decide) rfl (fun ls hl => ?_)
              refine lv_iinc (v := nI (k + 1)) (lv' := [(4, .int (nI (k + 1))), (3, .int 0), (0, .ref (ad 0)), (1, .int x), (2, .int y)]) hx hb d_Mo_cut_72 hl (k := 1) rfl (nI_inc _) (by decide) rfl (fun ls hl => ?_)
              refine lv_goto (tgt := 17) hx hb d_Mo_cut_75 (by decide) ?_
              have e9 : mo_fc σ x y (k + 1) = 0 := by
                rw [mo_fc]; rw [if_pos (by first | exact Or.inl ⟨c9, c10⟩ | exact Or.inr ⟨c9, c10⟩)]
              exact ih (k + 1) (by omega) (by omega) ls (by rw [e9]; exact (lv_sub hl [0, 1, 2, 3, 4] rfl))
        · refine lv_aload_n hx hb d_Mo_cut_37 rfl (lv_at hl 2 rfl) ?_
          refine gf_Mo_cutB F hK hP d_Mo_cut_38 ?_
          refine lv_iload hx hb d_Mo_cut_41 (lv_at hl 0 rfl) ?_
          refine im_16 (j := k) F hK hP rfl (by omega) d_Mo_cut_43 ?_
          refine lv_iload_n hx hb d_Mo_cut_44 rfl (lv_at hl 4 rfl) ?_
          refine lv_icmp_eq (tgt := 70) hx hb d_Mo_cut_45 (by decide) (fun c11 => ?_) (fun c11 => ?_)
          · refine lv_iconst (v := 0) hx hb d_Mo_cut_70 (by decide) ?_
            refine lv_istore_n (lv' := [(3, .int 0), (4, .int (nI k)), (0, .ref (ad 0)), (1, .int x), (2, .int y)]) hx hb d_Mo_cut_71 rfl hl (by decide) rfl (fun ls hl => ?_)
            refine lv_iinc (v := nI (k + 1)) (lv' := [(4, .int (nI (k + 1))), (3, .int 0), (0, .ref (ad 0)), (1, .int x), (2, .int y)]) hx hb d_Mo_cut_72 hl (k := 1) rfl (nI_inc _) (by decide) rfl (fun ls hl => ?_)
            refine lv_goto (tgt := 17) hx hb d_Mo_cut_75 (by decide) ?_
            have e9 : mo_fc σ x y (k + 1) = 0 := by
              rw [mo_fc]; rw [if_pos (by first | exact Or.inl ⟨c8, c11⟩ | exact Or.inr ⟨c8, c11⟩)]
            exact ih (k + 1) (by omega) (by omega) ls (by rw [e9]; exact (lv_sub hl [0, 1, 2, 3, 4] rfl))
          · refine lv_aload_n hx hb d_Mo_cut_48 rfl (lv_at hl 2 rfl) ?_
            refine gf_Mo_cutA F hK hP d_Mo_cut_49 ?_
            refine lv_iload hx hb d_Mo_cut_52 (lv_at hl 0 rfl) ?_
            refine im_15 (j := k) F hK hP rfl (by omega) d_Mo_cut_54 ?_
            refine lv_iload_n hx hb d_Mo_cut_55 rfl (lv_at hl 4 rfl) ?_
            refine lv_icmp_ne (tgt := 72) hx hb d_Mo_cut_56 (by decide) (fun c12 => ?_) (fun c12 => ?_)
            · refine lv_iinc (v := nI (k + 1)) (lv' := [(4, .int (nI (k + 1))), (3, .int (mo_fc σ x y k)), (0, .ref (ad 0)), (1, .int x), (2, .int y)]) hx hb d_Mo_cut_72 hl (k := 0) rfl (nI_inc _) (by decide) rfl (fun ls hl => ?_)
              refine lv_goto (tgt := 17) hx hb d_Mo_cut_75 (by decide) ?_
              have e9 : mo_fc σ x y (k + 1) = mo_fc σ x y k := by
                rw [mo_fc]; rw [if_neg (by intro h; rcases h with ⟨a, b⟩ | ⟨a, b⟩ <;> first | exact c8 a | exact c8 b | exact c11 a | exact c11 b | exact c12 a | exact c12 b)]
              exact ih (k + 1) (by omega) (by omega) ls (by rw [e9]; exact (lv_sub hl [0, 1, 2, 3, 4] rfl))
            · refine lv_aload_n hx hb d_Mo_cut_59 rfl (lv_at hl 2 rfl) ?_
              refine gf_Mo_cutB F hK hP d_Mo_cut_60 ?_
              refine lv_iload hx hb d_Mo_cut_63 (lv_at hl 0 rfl) ?_
              refine im_16 (j := k) F hK hP rfl (by omega) d_Mo_cut_65 ?_
              refine lv_iload_n hx hb d_Mo_cut_66 rfl (lv_at hl 3 rfl) ?_
              refine lv_icmp_ne (tgt := 72) hx hb d_Mo_cut_67 (by decide) (fun c13 => ?_) (fun c13 => ?_)
              · refine lv_iinc (v := nI (k + 1)) (lv' := [(4, .int (nI (k + 1))), (3, .int (mo_fc σ x y k)), (0, .ref (ad 0)), (1, .int x), (2, .int y)]) hx hb d_Mo_cut_72 hl (k := 0) rfl (nI_inc _) (by decide) rfl (fun ls hl => ?_)
                refine lv_goto (tgt := 17) hx hb d_Mo_cut_75 (by decide) ?_
                have e9 : mo_fc σ x y (k + 1) = mo_fc σ x y k := by
                  rw [mo_fc]; rw [if_neg (by intro h; rcases h with ⟨a, b⟩ | ⟨a, b⟩ <;> first | exact c8 a | exact c8 b | exact c11 a | exact c11 b | exact c12 a | exact c12 b | exact c13 a | exact c13 b)]
                exact ih (k + 1) (by omega) (by omega) ls (by rw [e9]; exact (lv_sub hl [0, 1, 2, 3, 4] rfl))
              · refine lv_iconst (v := 0) hx hb d_Mo_cut_70 (by decide) ?_
                refine lv_istore_n (lv' := [(3, .int 0), (4, .int (nI k)), (0, .ref (ad 0)), (1, .int x), (2, .int y)]) hx hb d_Mo_cut_71 rfl hl (by decide) rfl (fun ls hl => ?_)
                refine lv_iinc (v := nI (k + 1)) (lv' := [(4, .int (nI (k + 1))), (3, .int 0), (0, .ref (ad 0)), (1, .int x), (2, .int y)]) hx hb d_Mo_cut_72 hl (k := 1) rfl (nI_inc _) (by decide) rfl (fun ls hl => ?_)
                refine lv_goto (tgt := 17) hx hb d_Mo_cut_75 (by decide) ?_
                have e9 : mo_fc σ x y (k + 1) = 0 := by
                  rw [mo_fc]; rw [if_pos (by first | exact Or.inl ⟨c12, c13⟩ | exact Or.inr ⟨c12, c13⟩)]
                exact ih (k + 1) (by omega) (by omega) ls (by rw [e9]; exact (lv_sub hl [0, 1, 2, 3, 4] rfl))
  refine lv_aload_n hx hb d_Mo_cut_0 rfl (lv_at hl 0 rfl) ?_
  refine gf_Mo_cuts F hK hP d_Mo_cut_1 ?_
  refine lv_iconst (v := 4) hx hb d_Mo_cut_4 (by decide) ?_
  refine lv_icmp_ge (tgt := 12) hx hb d_Mo_cut_5 (by decide) (fun c14 => ?_) (fun c14 => ?_)
  · refine lv_iconst (v := 0) hx hb d_Mo_cut_12 (by decide) ?_
    refine lv_istore_n (lv' := [(3, .int 0), (0, .ref (ad 0)), (1, .int x), (2, .int y)]) hx hb d_Mo_cut_13 rfl hl (by decide) rfl (fun ls hl => ?_)
    refine lv_iconst (v := 0) hx hb d_Mo_cut_14 (by decide) ?_
    refine lv_istore (lv' := [(4, .int 0), (3, .int 0), (0, .ref (ad 0)), (1, .int x), (2, .int y)]) hx hb d_Mo_cut_15 hl (by decide) rfl (fun ls hl => ?_)
    exact lp (u + 1) 0 (by omega) (by omega) ls (by rw [show mo_fc σ x y 0 = 0 by unfold mo_fc; first | rw [if_pos c14] | rw [if_neg c14]]; exact (lv_sub hl [0, 1, 2, 3, 4] rfl))
  · refine lv_iconst (v := 1) hx hb d_Mo_cut_8 (by decide) ?_
    refine lv_goto (tgt := 13) hx hb d_Mo_cut_9 (by decide) ?_
    refine lv_istore_n (lv' := [(3, .int 1), (0, .ref (ad 0)), (1, .int x), (2, .int y)]) hx hb d_Mo_cut_13 rfl hl (by decide) rfl (fun ls hl => ?_)
    refine lv_iconst (v := 0) hx hb d_Mo_cut_14 (by decide) ?_
    refine lv_istore (lv' := [(4, .int 0), (3, .int 1), (0, .ref (ad 0)), (1, .int x), (2, .int y)]) hx hb d_Mo_cut_15 hl (by decide) rfl (fun ls hl => ?_)
    exact lp (u + 1) 0 (by omega) (by omega) ls (by rw [show mo_fc σ x y 0 = 1 by unfold mo_fc; first | rw [if_pos c14] | rw [if_neg c14]]; exact (lv_sub hl [0, 1, 2, 3, 4] rfl))
theorem x_Mo_cut_1 {σ : oS} {u : Nat} (h_u : σ 3 0 0 = nI u) (hu4 : u ≤ 4) {x : Int32} {y : Int32} (hone : mo_in x 0 (σ 1 0 0 - 1) = 0 ∨ mo_in y 0 (σ 1 0 0 - 1) = 0 ∨ x = y) (F : CallFix p m c cc nL s args (cw :: tt) own) (hG : Cond.methodLink own index y_Mo_cut ∈ tt) (hR : 2 + 1 ≤ R.frames ∧ 8 + (5 + 11) + 43 ≤ R.locals) (hK : va_K D vwCl (mt cI cZ) s) (hP : va_P D vwCl (mw cI cZ ad σ) H) (hD : va_D A (mw cI cZ ad σ)) (hS : va_S A H0 H locs) (hA : ∀ q, H0.size ≤ q → A q) (hsz : ls.size = nL) (hW : (rest.map fun v => v.category).sum ≤ 8) (hcs : cells ≤ R.cells ∧ slots ≤ R.slots) (hdg : decode cc pc = .ok (.invokevirtual index, 3)) (kk : ∀ (H1 : Heap) (locs1 : List Loc), va_P D vwCl (mw cI cZ ad (u3 σ 0 0 0 1)) H1 → va_D A (mw cI cZ ad (u3 σ 0 0 0 1)) → va_S A H0 H1 locs1 → W p l e R s m args below meth c H1 locs1 cells slots Q (F0 m (pc + 3) ls (.int 0 :: rest))) : W p l e R s m args below meth c H locs cells slots Q (F0 m pc ls (.int y :: .int x :: .ref (ad 0) :: rest)) :=
  ok_VM (As := [.int x, .int y]) F (c_Mo_cut_1 σ h_u hu4 hone) 2 (tt_V hG i_Mo_cut l_Mo_cut in9_Mo k_Mo_cut) rfl ⟨rfl, rfl⟩ (by decide +kernel) hR hK hP hD hS hA (0) 6 rfl rfl mw_0 rfl hsz rfl hW hcs hdg kk
set_option maxHeartbeats 4000000 in
set_option maxRecDepth 100000 in
theorem c_Mo_cut_2 (σ : oS) {u : Nat} (h_u : σ 3 0 0 = nI u) (hu4 : u ≤ 4) {x : Int32} {y : Int32} (h1 : mo_in x 0 (σ 1 0 0 - 1) = 1) (h2 : mo_in y 0 (σ 1 0 0 - 1) = 1) (h3 : ¬ x = y) (h4 : mo_fc σ x y u = 0) : ok_MM l y_Mo_cut (Cond.code y_Mo_cut b_Mo_cut 5 (some .int) :: tt) { frames := 2, cells := 0, slots := 0, locals := 43 } D vwCl (mt cI cZ) (mw cI cZ ad σ) (mw cI cZ ad (u3 σ 0 0 0 2)) [.ref (ad 0), .int x, .int y] (some (.int 0)) := by
  refine ok_startM (cc := b_Mo_cut) (own := RMo) (maxL := 5) (ret := (some .int)) (by decide +kernel) rfl rfl (Nat.le_of_ble_eq_true rfl) ?_
  intro p e s m below meth c A F hr hlk hA hP hK hD hS ls hl
  have hl : lv_has ls 5 [(0, .ref (ad 0)), (1, .int x), (2, .int y)] := hl
  have hx := F.1
  have hb := F.2.1
  have lp : ∀ (f k : Nat), k ≤ u → u - k < f → ∀ ls : Array Slot, lv_has ls 5 [(4, .int (nI k)), (3, .int (mo_fc σ x y k)), (0, .ref (ad 0)), (1, .int x), (2, .int y)] → W p l e { frames := 2, cells := 0, slots := 0, locals := 43 } s m ([.ref (ad 0), .int x, .int y] : List Value).toArray below meth c s.heap [] 0 0 (MQ below (ok_qA D vwCl A (mw cI cZ ad (u3 σ 0 0 0 2)) (some (.int 0))) ([.ref (ad 0), .int x, .int y] : List Value).toArray s 0 0 A) (F0 m 17 ls []) := by
    intro f
    induction f with
    | zero => intro k h1 h2; omega
    | succ f ih =>
      intro k hk1 hk2 ls hl
      refine lv_iload hx hb d_Mo_cut_17 (lv_at hl 0 rfl) ?_
      refine lv_aload_n hx hb d_Mo_cut_19 rfl (lv_at hl 2 rfl) ?_
      refine gf_Mo_cuts F hK hP d_Mo_cut_20 ?_
      refine lv_icmp_ge (tgt := 78) hx hb d_Mo_cut_23 (by decide) (fun c1 => ?_) (fun c1 => ?_)
      · have hkn : u = k := by
          rw [h_u, nI_leI (by omega) (by omega)] at c1; omega
        subst hkn
        refine lv_aload_n hx hb d_Mo_cut_78 rfl (lv_at hl 2 rfl) ?_
        refine lv_aload_n hx hb d_Mo_cut_79 rfl (lv_at hl 2 rfl) ?_
        refine lv_iload_n hx hb d_Mo_cut_80 rfl (lv_at hl 3 rfl) ?_
        refine x_Mo_isColumn F (tt4 14 rfl rfl) ⟨Nat.le_of_ble_eq_true rfl, Nat.le_of_ble_eq_true rfl⟩ hK hP hl.1 (Nat.le_of_ble_eq_true rfl) ⟨Nat.zero_le _, Nat.zero_le _⟩ d_Mo_cut_81 ?_
        refine lv_if_eq (tgt := 104) hx hb d_Mo_cut_84 (by decide) (fun c2 => ?_) (fun c2 => ?_)
        · first | exact absurd c2 (by rw [h1]; decide) | exact absurd c2 (by rw [h2]; decide) | exact absurd c2 h3
        · refine lv_aload_n hx hb d_Mo_cut_87 rfl (lv_at hl 2 rfl) ?_
          refine lv_iload_n hx hb d_Mo_cut_88 rfl (lv_at hl 4 rfl) ?_
          refine x_Mo_isColumn F (tt4 14 rfl rfl) ⟨Nat.le_of_ble_eq_true rfl, Nat.le_of_ble_eq_true rfl⟩ hK hP hl.1 (Nat.le_of_ble_eq_true rfl) ⟨Nat.zero_le _, Nat.zero_le _⟩ d_Mo_cut_89 ?_
          refine lv_if_eq (tgt := 104) hx hb d_Mo_cut_92 (by decide) (fun c3 => ?_) (fun c3 => ?_)
          · first | exact absurd c3 (by rw [h1]; decide) | exact absurd c3 (by rw [h2]; decide) | exact absurd c3 h3
          · refine lv_iload_n hx hb d_Mo_cut_95 rfl (lv_at hl 3 rfl) ?_
            refine lv_iload_n hx hb d_Mo_cut_96 rfl (lv_at hl 4 rfl) ?_
            refine lv_icmp_eq (tgt := 104) hx hb d_Mo_cut_97 (by decide) (fun c4 => ?_) (fun c4 => ?_)
            · first | exact absurd c4 (by rw [h1]; decide) | exact absurd c4 (by rw [h2]; decide) | exact absurd c4 h3
            · refine lv_iconst (v := 1) hx hb d_Mo_cut_100 (by decide) ?_
              refine lv_goto (tgt := 105) hx hb d_Mo_cut_101 (by decide) ?_
              refine lv_iload_n hx hb d_Mo_cut_105 rfl (lv_at hl 1 rfl) ?_
              refine x_Mo_goes F (tt3 230 rfl rfl) ⟨Nat.le_of_ble_eq_true rfl, Nat.le_of_ble_eq_true rfl⟩ hK hP hD hS hA hl.1 (Nat.le_of_ble_eq_true rfl) ⟨Nat.zero_le _, Nat.zero_le _⟩ d_Mo_cut_106 (fun H locs hP hD hS => ?_)
              have ew : u3 σ 0 0 0 (mo_g 1 (mo_fc σ x y u)) = u3 σ 0 0 0 2 := by rw [h4]; simp [mo_g]
              rw [ew] at hP hD
              clear ew
              refine lv_if_ne (tgt := 114) hx hb d_Mo_cut_109 (by decide) (fun c5 => ?_) (fun c5 => ?_)
              · exact absurd (by rw [h4]; simp [mo_g]) c5
              · refine lv_iconst (v := 0) hx hb d_Mo_cut_112 (by decide) ?_
                exact ok_iretM F hr hlk hP hD hS (rfl) d_Mo_cut_113
      · have hkn : k < u := by
          rw [h_u, nI_leI (by omega) (by omega)] at c1; omega
        refine lv_aload_n hx hb d_Mo_cut_26 rfl (lv_at hl 2 rfl) ?_
        refine gf_Mo_cutA F hK hP d_Mo_cut_27 ?_
        refine lv_iload hx hb d_Mo_cut_30 (lv_at hl 0 rfl) ?_
        refine im_15 (j := k) F hK hP rfl (by omega) d_Mo_cut_32 ?_
        refine lv_iload_n hx hb d_Mo_cut_33 rfl (lv_at hl 3 rfl) ?_
        refine lv_icmp_ne (tgt := 48) hx hb d_Mo_cut_34 (by decide) (fun c6 => ?_) (fun c6 => ?_)
        · refine lv_aload_n hx hb d_Mo_cut_48 rfl (lv_at hl 2 rfl) ?_
          refine gf_Mo_cutA F hK hP d_Mo_cut_49 ?_
          refine lv_iload hx hb d_Mo_cut_52 (lv_at hl 0 rfl) ?_
          refine im_15 (j := k) F hK hP rfl (by omega) d_Mo_cut_54 ?_
          refine lv_iload_n hx hb d_Mo_cut_55 rfl (lv_at hl 4 rfl) ?_
          refine lv_icmp_ne (tgt := 72) hx hb d_Mo_cut_56 (by decide) (fun c7 => ?_) (fun c7 => ?_)
          · refine lv_iinc (v := nI (k + 1)) (lv' := [(4, .int (nI (k + 1))), (3, .int (mo_fc σ x y k)), (0, .ref (ad 0)), (1, .int x), (2, .int y)]) hx hb d_Mo_cut_72 hl (k := 0) rfl (nI_inc _) (by decide) rfl (fun ls hl => ?_)
            refine lv_goto (tgt := 17) hx hb d_Mo_cut_75 (by decide) ?_
            have e9 : mo_fc σ x y (k + 1) = mo_fc σ x y k := by
              rw [mo_fc]; rw [if_neg (by intro h; rcases h with ⟨a, b⟩ | ⟨a, b⟩ <;> first | exact c6 a | exact c6 b | exact c7 a | exact c7 b)]
            exact ih (k + 1) (by omega) (by omega) ls (by rw [e9]; exact (lv_sub hl [0, 1, 2, 3, 4] rfl))
          · refine lv_aload_n hx hb d_Mo_cut_59 rfl (lv_at hl 2 rfl) ?_
            refine gf_Mo_cutB F hK hP d_Mo_cut_60 ?_
            refine lv_iload hx hb d_Mo_cut_63 (lv_at hl 0 rfl) ?_
            refine im_16 (j := k) F hK hP rfl (by omega) d_Mo_cut_65 ?_
            refine lv_iload_n hx hb d_Mo_cut_66 rfl (lv_at hl 3 rfl) ?_
            refine lv_icmp_ne (tgt := 72) hx hb d_Mo_cut_67 (by decide) (fun c8 => ?_) (fun c8 => ?_)
            · refine lv_iinc (v := nI (k + 1)) (lv' := [(4, .int (nI (k + 1))), (3, .int (mo_fc σ x y k)), (0, .ref (ad 0)), (1, .int x), (2, .int y)]) hx hb d_Mo_cut_72 hl (k := 0) rfl (nI_inc _) (by decide) rfl (fun ls hl => ?_)
              refine lv_goto (tgt := 17) hx hb d_Mo_cut_75 (by decide) ?_
              have e9 : mo_fc σ x y (k + 1) = mo_fc σ x y k := by
                rw [mo_fc]; rw [if_neg (by intro h; rcases h with ⟨a, b⟩ | ⟨a, b⟩ <;> first | exact c6 a | exact c6 b | exact c7 a | exact c7 b | exact c8 a | exact c8 b)]
              exact ih (k + 1) (by omega) (by omega) ls (by rw [e9]; exact (lv_sub hl [0, 1, 2, 3, 4] rfl))
            · refine lv_iconst (v := 0) hx hb d_Mo_cut_70 (by decide) ?_
              refine lv_istore_n (lv' := [(3, .int 0), (4, .int (nI k)), (0, .ref (ad 0)), (1, .int x), (2, .int y)]) hx hb d_Mo_cut_71 rfl hl (by decide) rfl (fun ls hl => ?_)
              refine lv_iinc (v := nI (k + 1)) (lv' := [(4, .int (nI (k + 1))), (3, .int 0), (0, .ref (ad 0)), (1, .int x), (2, .int y)]) hx hb d_Mo_cut_72 hl (k := 1) rfl (nI_inc _) (by decide) rfl (fun ls hl => ?_)
              refine lv_goto (tgt := 17) hx hb d_Mo_cut_75 (by decide) ?_
              have e9 : mo_fc σ x y (k + 1) = 0 := by
                rw [mo_fc]; rw [if_pos (by first | exact Or.inl ⟨c7, c8⟩ | exact Or.inr ⟨c7, c8⟩)]
              exact ih (k + 1) (by omega) (by omega) ls (by rw [e9]; exact (lv_sub hl [0, 1, 2, 3, 4] rfl))
        · refine lv_aload_n hx hb d_Mo_cut_37 rfl (lv_at hl 2 rfl) ?_
          refine gf_Mo_cutB F hK hP d_Mo_cut_38 ?_
          refine lv_iload hx hb d_Mo_cut_41 (lv_at hl 0 rfl) ?_
          refine im_16 (j := k) F hK hP rfl (by omega) d_Mo_cut_43 ?_
          refine lv_iload_n hx hb d_Mo_cut_44 rfl (lv_at hl 4 rfl) ?_
          refine lv_icmp_eq (tgt := 70) hx hb d_Mo_cut_45 (by decide) (fun c9 => ?_) (fun c9 => ?_)
          · refine lv_iconst (v := 0) hx hb d_Mo_cut_70 (by decide) ?_
            refine lv_istore_n (lv' := [(3, .int 0), (4, .int (nI k)), (0, .ref (ad 0)), (1, .int x), (2, .int y)]) hx hb d_Mo_cut_71 rfl hl (by decide) rfl (fun ls hl => ?_)
            refine lv_iinc (v := nI (k + 1)) (lv' := [(4, .int (nI (k + 1))), (3, .int 0), (0, .ref (ad 0)), (1, .int x), (2, .int y)]) hx hb d_Mo_cut_72 hl (k := 1) rfl (nI_inc _) (by decide) rfl (fun ls hl => ?_)
            refine lv_goto (tgt := 17) hx hb d_Mo_cut_75 (by decide) ?_
            have e9 : mo_fc σ x y (k + 1) = 0 := by
              rw [mo_fc]; rw [if_pos (by first | exact Or.inl ⟨c6, c9⟩ | exact Or.inr ⟨c6, c9⟩)]
            exact ih (k + 1) (by omega) (by omega) ls (by rw [e9]; exact (lv_sub hl [0, 1, 2, 3, 4] rfl))
          · refine lv_aload_n hx hb d_Mo_cut_48 rfl (lv_at hl 2 rfl) ?_
            refine gf_Mo_cutA F hK hP d_Mo_cut_49 ?_
            refine lv_iload hx hb d_Mo_cut_52 (lv_at hl 0 rfl) ?_
            refine im_15 (j := k) F hK hP rfl (by omega) d_Mo_cut_54 ?_
            refine lv_iload_n hx hb d_Mo_cut_55 rfl (lv_at hl 4 rfl) ?_
            refine lv_icmp_ne (tgt := 72) hx hb d_Mo_cut_56 (by decide) (fun c10 => ?_) (fun c10 => ?_)
            · refine lv_iinc (v := nI (k + 1)) (lv' := [(4, .int (nI (k + 1))), (3, .int (mo_fc σ x y k)), (0, .ref (ad 0)), (1, .int x), (2, .int y)]) hx hb d_Mo_cut_72 hl (k := 0) rfl (nI_inc _) (by decide) rfl (fun ls hl => ?_)
              refine lv_goto (tgt := 17) hx hb d_Mo_cut_75 (by decide) ?_
              have e9 : mo_fc σ x y (k + 1) = mo_fc σ x y k := by
                rw [mo_fc]; rw [if_neg (by intro h; rcases h with ⟨a, b⟩ | ⟨a, b⟩ <;> first | exact c6 a | exact c6 b | exact c9 a | exact c9 b | exact c10 a | exact c10 b)]
              exact ih (k + 1) (by omega) (by omega) ls (by rw [e9]; exact (lv_sub hl [0, 1, 2, 3, 4] rfl))
            · refine lv_aload_n hx hb d_Mo_cut_59 rfl (lv_at hl 2 rfl) ?_
              refine gf_Mo_cutB F hK hP d_Mo_cut_60 ?_
              refine lv_iload hx hb d_Mo_cut_63 (lv_at hl 0 rfl) ?_
              refine im_16 (j := k) F hK hP rfl (by omega) d_Mo_cut_65 ?_
              refine lv_iload_n hx hb d_Mo_cut_66 rfl (lv_at hl 3 rfl) ?_
              refine lv_icmp_ne (tgt := 72) hx hb d_Mo_cut_67 (by decide) (fun c11 => ?_) (fun c11 => ?_)
              · refine lv_iinc (v := nI (k + 1)) (lv' := [(4, .int (nI (k + 1))), (3, .int (mo_fc σ x y k)), (0, .ref (ad 0)), (1, .int x), (2, .int y)]) hx hb d_Mo_cut_72 hl (k := 0) rfl (nI_inc _) (by decide) rfl (fun ls hl => ?_)
                refine lv_goto (tgt := 17) hx hb d_Mo_cut_75 (by decide) ?_
                have e9 : mo_fc σ x y (k + 1) = mo_fc σ x y k := by
                  rw [mo_fc]; rw [if_neg (by intro h; rcases h with ⟨a, b⟩ | ⟨a, b⟩ <;> first | exact c6 a | exact c6 b | exact c9 a | exact c9 b | exact c10 a | exact c10 b | exact c11 a | exact c11 b)]
                exact ih (k + 1) (by omega) (by omega) ls (by rw [e9]; exact (lv_sub hl [0, 1, 2, 3, 4] rfl))
              · refine lv_iconst (v := 0) hx hb d_Mo_cut_70 (by decide) ?_
                refine lv_istore_n (lv' := [(3, .int 0), (4, .int (nI k)), (0, .ref (ad 0)), (1, .int x), (2, .int y)]) hx hb d_Mo_cut_71 rfl hl (by decide) rfl (fun ls hl => ?_)
                refine lv_iinc (v := nI (k + 1)) (lv' := [(4, .int (nI (k + 1))), (3, .int 0), (0, .ref (ad 0)), (1, .int x), (2, .int y)]) hx hb d_Mo_cut_72 hl (k := 1) rfl (nI_inc _) (by decide) rfl (fun ls hl => ?_)
                refine lv_goto (tgt := 17) hx hb d_Mo_cut_75 (by decide) ?_
                have e9 : mo_fc σ x y (k + 1) = 0 := by
                  rw [mo_fc]; rw [if_pos (by first | exact Or.inl ⟨c10, c11⟩ | exact Or.inr ⟨c10, c11⟩)]
                exact ih (k + 1) (by omega) (by omega) ls (by rw [e9]; exact (lv_sub hl [0, 1, 2, 3, 4] rfl))
  refine lv_aload_n hx hb d_Mo_cut_0 rfl (lv_at hl 0 rfl) ?_
  refine gf_Mo_cuts F hK hP d_Mo_cut_1 ?_
  refine lv_iconst (v := 4) hx hb d_Mo_cut_4 (by decide) ?_
  refine lv_icmp_ge (tgt := 12) hx hb d_Mo_cut_5 (by decide) (fun c12 => ?_) (fun c12 => ?_)
  · refine lv_iconst (v := 0) hx hb d_Mo_cut_12 (by decide) ?_
    refine lv_istore_n (lv' := [(3, .int 0), (0, .ref (ad 0)), (1, .int x), (2, .int y)]) hx hb d_Mo_cut_13 rfl hl (by decide) rfl (fun ls hl => ?_)
    refine lv_iconst (v := 0) hx hb d_Mo_cut_14 (by decide) ?_
    refine lv_istore (lv' := [(4, .int 0), (3, .int 0), (0, .ref (ad 0)), (1, .int x), (2, .int y)]) hx hb d_Mo_cut_15 hl (by decide) rfl (fun ls hl => ?_)
    exact lp (u + 1) 0 (by omega) (by omega) ls (by rw [show mo_fc σ x y 0 = 0 by unfold mo_fc; first | rw [if_pos c12] | rw [if_neg c12]]; exact (lv_sub hl [0, 1, 2, 3, 4] rfl))
  · refine lv_iconst (v := 1) hx hb d_Mo_cut_8 (by decide) ?_
    refine lv_goto (tgt := 13) hx hb d_Mo_cut_9 (by decide) ?_
    refine lv_istore_n (lv' := [(3, .int 1), (0, .ref (ad 0)), (1, .int x), (2, .int y)]) hx hb d_Mo_cut_13 rfl hl (by decide) rfl (fun ls hl => ?_)
    refine lv_iconst (v := 0) hx hb d_Mo_cut_14 (by decide) ?_
    refine lv_istore (lv' := [(4, .int 0), (3, .int 1), (0, .ref (ad 0)), (1, .int x), (2, .int y)]) hx hb d_Mo_cut_15 hl (by decide) rfl (fun ls hl => ?_)
    exact lp (u + 1) 0 (by omega) (by omega) ls (by rw [show mo_fc σ x y 0 = 1 by unfold mo_fc; first | rw [if_pos c12] | rw [if_neg c12]]; exact (lv_sub hl [0, 1, 2, 3, 4] rfl))
theorem x_Mo_cut_2 {σ : oS} {u : Nat} (h_u : σ 3 0 0 = nI u) (hu4 : u ≤ 4) {x : Int32} {y : Int32} (h1 : mo_in x 0 (σ 1 0 0 - 1) = 1) (h2 : mo_in y 0 (σ 1 0 0 - 1) = 1) (h3 : ¬ x = y) (h4 : mo_fc σ x y u = 0) (F : CallFix p m c cc nL s args (cw :: tt) own) (hG : Cond.methodLink own index y_Mo_cut ∈ tt) (hR : 2 + 1 ≤ R.frames ∧ 8 + (5 + 11) + 43 ≤ R.locals) (hK : va_K D vwCl (mt cI cZ) s) (hP : va_P D vwCl (mw cI cZ ad σ) H) (hD : va_D A (mw cI cZ ad σ)) (hS : va_S A H0 H locs) (hA : ∀ q, H0.size ≤ q → A q) (hsz : ls.size = nL) (hW : (rest.map fun v => v.category).sum ≤ 8) (hcs : cells ≤ R.cells ∧ slots ≤ R.slots) (hdg : decode cc pc = .ok (.invokevirtual index, 3)) (kk : ∀ (H1 : Heap) (locs1 : List Loc), va_P D vwCl (mw cI cZ ad (u3 σ 0 0 0 2)) H1 → va_D A (mw cI cZ ad (u3 σ 0 0 0 2)) → va_S A H0 H1 locs1 → W p l e R s m args below meth c H1 locs1 cells slots Q (F0 m (pc + 3) ls (.int 0 :: rest))) : W p l e R s m args below meth c H locs cells slots Q (F0 m pc ls (.int y :: .int x :: .ref (ad 0) :: rest)) :=
  ok_VM (As := [.int x, .int y]) F (c_Mo_cut_2 σ h_u hu4 h1 h2 h3 h4) 2 (tt_V hG i_Mo_cut l_Mo_cut in9_Mo k_Mo_cut) rfl ⟨rfl, rfl⟩ (by decide +kernel) hR hK hP hD hS hA (0) 6 rfl rfl mw_0 rfl hsz rfl hW hcs hdg kk
set_option maxHeartbeats 4000000 in
set_option maxRecDepth 100000 in
theorem c_Mo_follow (σ : oS) {x : Int32} {j : Nat} (hj : x = nI j) (hj9 : j < 5) {y : Int32} {t : Nat} (ht : y = nI t) (ht9 : t < 5) (h1 : mo_in x 0 (σ 1 0 0 - 1) = 1) (h2 : mo_in y 0 (σ 1 0 0 - 1) = 1) (h3 : ¬ x = y) (h4 : ¬ 10 ≤ σ 4 0 0) (h5 : σ 18 0 (5 * j + t) = 0) : ok_MM l y_Mo_follow (Cond.code y_Mo_follow b_Mo_follow 4 (some .int) :: tt) { frames := 2, cells := 0, slots := 0, locals := 43 } D vwCl (mt cI cZ) (mw cI cZ ad σ) (mw cI cZ ad (u3 (u3 (u3 σ 0 0 0 0) 18 0 (5 * j + t) 1) 4 0 0 (σ 4 0 0 + 1))) [.ref (ad 0), .int x, .int y] (some (.int (σ 4 0 0 + 1))) := by
  refine ok_startM (cc := b_Mo_follow) (own := RMo) (maxL := 4) (ret := (some .int)) (by decide +kernel) rfl rfl (Nat.le_of_ble_eq_true rfl) ?_
  intro p e s m below meth c A F hr hlk hA hP hK hD hS ls hl
  have hl : lv_has ls 4 [(0, .ref (ad 0)), (1, .int x), (2, .int y)] := hl
  have hx := F.1
  have hb := F.2.1
  refine lv_aload_n hx hb d_Mo_follow_0 rfl (lv_at hl 0 rfl) ?_
  refine lv_iload_n hx hb d_Mo_follow_1 rfl (lv_at hl 1 rfl) ?_
  refine x_Mo_isColumn F (tt4 14 rfl rfl) ⟨Nat.le_of_ble_eq_true rfl, Nat.le_of_ble_eq_true rfl⟩ hK hP hl.1 (Nat.le_of_ble_eq_true rfl) ⟨Nat.zero_le _, Nat.zero_le _⟩ d_Mo_follow_2 ?_
  refine lv_if_eq (tgt := 25) hx hb d_Mo_follow_5 (by decide) (fun c1 => ?_) (fun c1 => ?_)
  · first | exact absurd c1 (by rw [h1]; decide) | exact absurd c1 (by rw [h2]; decide) | exact absurd c1 h3
  · refine lv_aload_n hx hb d_Mo_follow_8 rfl (lv_at hl 0 rfl) ?_
    refine lv_iload_n hx hb d_Mo_follow_9 rfl (lv_at hl 2 rfl) ?_
    refine x_Mo_isColumn F (tt4 14 rfl rfl) ⟨Nat.le_of_ble_eq_true rfl, Nat.le_of_ble_eq_true rfl⟩ hK hP hl.1 (Nat.le_of_ble_eq_true rfl) ⟨Nat.zero_le _, Nat.zero_le _⟩ d_Mo_follow_10 ?_
    refine lv_if_eq (tgt := 25) hx hb d_Mo_follow_13 (by decide) (fun c2 => ?_) (fun c2 => ?_)
    · first | exact absurd c2 (by rw [h1]; decide) | exact absurd c2 (by rw [h2]; decide) | exact absurd c2 h3
    · refine lv_iload_n hx hb d_Mo_follow_16 rfl (lv_at hl 1 rfl) ?_
      refine lv_iload_n hx hb d_Mo_follow_17 rfl (lv_at hl 2 rfl) ?_
      refine lv_icmp_eq (tgt := 25) hx hb d_Mo_follow_18 (by decide) (fun c3 => ?_) (fun c3 => ?_)
      · first | exact absurd c3 (by rw [h1]; decide) | exact absurd c3 (by rw [h2]; decide) | exact absurd c3 h3
      · refine lv_iconst (v := 1) hx hb d_Mo_follow_21 (by decide) ?_
        refine lv_goto (tgt := 26) hx hb d_Mo_follow_22 (by decide) ?_
        refine lv_istore_n (lv' := [(3, .int 1), (0, .ref (ad 0)), (1, .int x), (2, .int y)]) hx hb d_Mo_follow_26 rfl hl (by decide) rfl (fun ls hl => ?_)
        refine lv_aload_n hx hb d_Mo_follow_27 rfl (lv_at hl 1 rfl) ?_
        refine lv_iload_n hx hb d_Mo_follow_28 rfl (lv_at hl 0 rfl) ?_
        refine lv_iload_n hx hb d_Mo_follow_29 rfl (lv_at hl 0 rfl) ?_
        refine lv_if_eq (tgt := 59) hx hb d_Mo_follow_30 (by decide) (fun c4 => ?_) (fun c4 => ?_)
        · first | exact absurd c4 (by decide) | exact absurd c4 h4 | exact absurd h5 c4
        · refine lv_aload_n hx hb d_Mo_follow_33 rfl (lv_at hl 1 rfl) ?_
          refine gf_Mo_follows F hK hP d_Mo_follow_34 ?_
          refine lv_bipush (v := 10) hx hb d_Mo_follow_37 (by decide) ?_
          refine lv_icmp_ge (tgt := 59) hx hb d_Mo_follow_39 (by decide) (fun c5 => ?_) (fun c5 => ?_)
          · first | exact absurd c5 (by decide) | exact absurd c5 h4 | exact absurd h5 c5
          · refine lv_aload_n hx hb d_Mo_follow_42 rfl (lv_at hl 1 rfl) ?_
            refine gf_Mo_behind F hK hP d_Mo_follow_43 ?_
            refine lv_iconst (v := 5) hx hb d_Mo_follow_46 (by decide) ?_
            refine lv_iload_n hx hb d_Mo_follow_47 rfl (lv_at hl 2 rfl) ?_
            refine lv_imul hx hb d_Mo_follow_48 ?_
            refine lv_iload_n hx hb d_Mo_follow_49 rfl (lv_at hl 3 rfl) ?_
            refine lv_iadd hx hb d_Mo_follow_50 ?_
            refine im_18 (j := (5 * j + t)) F hK hP (by rw [hj, ht]; exact mo_ix) (by omega) d_Mo_follow_51 ?_
            refine lv_if_ne (tgt := 59) hx hb d_Mo_follow_52 (by decide) (fun c6 => ?_) (fun c6 => ?_)
            · first | exact absurd c6 (by decide) | exact absurd c6 h4 | exact absurd h5 c6
            · refine lv_iconst (v := 1) hx hb d_Mo_follow_55 (by decide) ?_
              refine lv_goto (tgt := 60) hx hb d_Mo_follow_56 (by decide) ?_
              refine x_Mo_goes F (tt3 230 rfl rfl) ⟨Nat.le_of_ble_eq_true rfl, Nat.le_of_ble_eq_true rfl⟩ hK hP hD hS hA hl.1 (Nat.le_of_ble_eq_true rfl) ⟨Nat.zero_le _, Nat.zero_le _⟩ d_Mo_follow_60 (fun H locs hP hD hS => ?_)
              have ew : u3 σ 0 0 0 (mo_g 1 1) = u3 σ 0 0 0 0 := by simp [mo_g]
              rw [ew] at hP hD
              clear ew
              refine lv_if_ne (tgt := 68) hx hb d_Mo_follow_63 (by decide) (fun c7 => ?_) (fun c7 => ?_)
              · refine lv_aload_n hx hb d_Mo_follow_68 rfl (lv_at hl 1 rfl) ?_
                refine gf_Mo_behind F hK hP d_Mo_follow_69 ?_
                refine lv_iconst (v := 5) hx hb d_Mo_follow_72 (by decide) ?_
                refine lv_iload_n hx hb d_Mo_follow_73 rfl (lv_at hl 2 rfl) ?_
                refine lv_imul hx hb d_Mo_follow_74 ?_
                refine lv_iload_n hx hb d_Mo_follow_75 rfl (lv_at hl 3 rfl) ?_
                refine lv_iadd hx hb d_Mo_follow_76 ?_
                refine lv_iconst (v := 1) hx hb d_Mo_follow_77 (by decide) ?_
                refine sm_18 (j := (5 * j + t)) F hK hP hD hS (by rw [hj, ht]; exact mo_ix) (by omega) (by decide) d_Mo_follow_78 (fun H locs hP hD hS => ?_)
                refine lv_aload_n hx hb d_Mo_follow_79 rfl (lv_at hl 1 rfl) ?_
                refine lv_dup hx hb d_Mo_follow_80 rfl ?_
                refine gf_Mo_follows F hK hP d_Mo_follow_81 ?_
                refine lv_iconst (v := 1) hx hb d_Mo_follow_84 (by decide) ?_
                refine lv_iadd hx hb d_Mo_follow_85 ?_
                refine pf_Mo_follows F hK hP hD hS d_Mo_follow_86 (fun H locs hP hD hS => ?_)
                have ew : u3 (u3 (u3 σ 0 0 0 0) 18 0 (5 * j + t) 1) 4 0 0 (((u3 (u3 σ 0 0 0 0) 18 0 (5 * j + t) 1) 4 0 0) + 1) = u3 (u3 (u3 σ 0 0 0 0) 18 0 (5 * j + t) 1) 4 0 0 (σ 4 0 0 + 1) := by congr 1
                rw [ew] at hP hD
                clear ew
                refine lv_aload_n hx hb d_Mo_follow_89 rfl (lv_at hl 1 rfl) ?_
                refine gf_Mo_follows F hK hP d_Mo_follow_90 ?_
                exact ok_iretM F hr hlk hP hD hS (by rw [u3_s]) d_Mo_follow_93
              · exact absurd c7 (by simp [mo_g])
theorem x_Mo_follow {σ : oS} {x : Int32} {j : Nat} (hj : x = nI j) (hj9 : j < 5) {y : Int32} {t : Nat} (ht : y = nI t) (ht9 : t < 5) (h1 : mo_in x 0 (σ 1 0 0 - 1) = 1) (h2 : mo_in y 0 (σ 1 0 0 - 1) = 1) (h3 : ¬ x = y) (h4 : ¬ 10 ≤ σ 4 0 0) (h5 : σ 18 0 (5 * j + t) = 0) (F : CallFix p m c cc nL s args (cw :: tt) own) (hG : Cond.methodLink own index y_Mo_follow ∈ tt) (hR : 2 + 1 ≤ R.frames ∧ 8 + (4 + 11) + 43 ≤ R.locals) (hK : va_K D vwCl (mt cI cZ) s) (hP : va_P D vwCl (mw cI cZ ad σ) H) (hD : va_D A (mw cI cZ ad σ)) (hS : va_S A H0 H locs) (hA : ∀ q, H0.size ≤ q → A q) (hsz : ls.size = nL) (hW : (rest.map fun v => v.category).sum ≤ 8) (hcs : cells ≤ R.cells ∧ slots ≤ R.slots) (hdg : decode cc pc = .ok (.invokevirtual index, 3)) (kk : ∀ (H1 : Heap) (locs1 : List Loc), va_P D vwCl (mw cI cZ ad (u3 (u3 (u3 σ 0 0 0 0) 18 0 (5 * j + t) 1) 4 0 0 (σ 4 0 0 + 1))) H1 → va_D A (mw cI cZ ad (u3 (u3 (u3 σ 0 0 0 0) 18 0 (5 * j + t) 1) 4 0 0 (σ 4 0 0 + 1))) → va_S A H0 H1 locs1 → W p l e R s m args below meth c H1 locs1 cells slots Q (F0 m (pc + 3) ls (.int (σ 4 0 0 + 1) :: rest))) : W p l e R s m args below meth c H locs cells slots Q (F0 m pc ls (.int y :: .int x :: .ref (ad 0) :: rest)) :=
  ok_VM (As := [.int x, .int y]) F (c_Mo_follow σ hj hj9 ht ht9 h1 h2 h3 h4 h5) 2 (tt_V hG i_Mo_follow l_Mo_follow in9_Mo k_Mo_follow) rfl ⟨rfl, rfl⟩ (by decide +kernel) hR hK hP hD hS hA (0) 6 rfl rfl mw_0 rfl hsz rfl hW hcs hdg kk
set_option maxHeartbeats 4000000 in
set_option maxRecDepth 100000 in
theorem c_Mo_follow_1 (σ : oS) {x : Int32} {y : Int32} (hone : mo_in x 0 (σ 1 0 0 - 1) = 0 ∨ mo_in y 0 (σ 1 0 0 - 1) = 0 ∨ x = y) : ok_MM l y_Mo_follow (Cond.code y_Mo_follow b_Mo_follow 4 (some .int) :: tt) { frames := 2, cells := 0, slots := 0, locals := 43 } D vwCl (mt cI cZ) (mw cI cZ ad σ) (mw cI cZ ad (u3 σ 0 0 0 1)) [.ref (ad 0), .int x, .int y] (some (.int 0)) := by
  refine ok_startM (cc := b_Mo_follow) (own := RMo) (maxL := 4) (ret := (some .int)) (by decide +kernel) rfl rfl (Nat.le_of_ble_eq_true rfl) ?_
  intro p e s m below meth c A F hr hlk hA hP hK hD hS ls hl
  have hl : lv_has ls 4 [(0, .ref (ad 0)), (1, .int x), (2, .int y)] := hl
  have hx := F.1
  have hb := F.2.1
  refine lv_aload_n hx hb d_Mo_follow_0 rfl (lv_at hl 0 rfl) ?_
  refine lv_iload_n hx hb d_Mo_follow_1 rfl (lv_at hl 1 rfl) ?_
  refine x_Mo_isColumn F (tt4 14 rfl rfl) ⟨Nat.le_of_ble_eq_true rfl, Nat.le_of_ble_eq_true rfl⟩ hK hP hl.1 (Nat.le_of_ble_eq_true rfl) ⟨Nat.zero_le _, Nat.zero_le _⟩ d_Mo_follow_2 ?_
  refine lv_if_eq (tgt := 25) hx hb d_Mo_follow_5 (by decide) (fun c1 => ?_) (fun c1 => ?_)
  · refine lv_iconst (v := 0) hx hb d_Mo_follow_25 (by decide) ?_
    refine lv_istore_n (lv' := [(3, .int 0), (0, .ref (ad 0)), (1, .int x), (2, .int y)]) hx hb d_Mo_follow_26 rfl hl (by decide) rfl (fun ls hl => ?_)
    refine lv_aload_n hx hb d_Mo_follow_27 rfl (lv_at hl 1 rfl) ?_
    refine lv_iload_n hx hb d_Mo_follow_28 rfl (lv_at hl 0 rfl) ?_
    refine lv_iload_n hx hb d_Mo_follow_29 rfl (lv_at hl 0 rfl) ?_
    refine lv_if_eq (tgt := 59) hx hb d_Mo_follow_30 (by decide) (fun c2 => ?_) (fun c2 => ?_)
    · refine lv_iconst (v := 0) hx hb d_Mo_follow_59 (by decide) ?_
      refine x_Mo_goes F (tt3 230 rfl rfl) ⟨Nat.le_of_ble_eq_true rfl, Nat.le_of_ble_eq_true rfl⟩ hK hP hD hS hA hl.1 (Nat.le_of_ble_eq_true rfl) ⟨Nat.zero_le _, Nat.zero_le _⟩ d_Mo_follow_60 (fun H locs hP hD hS => ?_)
      have ew : u3 σ 0 0 0 (mo_g 0 0) = u3 σ 0 0 0 1 := by simp [mo_g]
      rw [ew] at hP hD
      clear ew
      refine lv_if_ne (tgt := 68) hx hb d_Mo_follow_63 (by decide) (fun c3 => ?_) (fun c3 => ?_)
      · exact absurd (by simp [mo_g]) c3
      · refine lv_iconst (v := 0) hx hb d_Mo_follow_66 (by decide) ?_
        exact ok_iretM F hr hlk hP hD hS (rfl) d_Mo_follow_67
    · exact absurd rfl c2
  · refine lv_aload_n hx hb d_Mo_follow_8 rfl (lv_at hl 0 rfl) ?_
    refine lv_iload_n hx hb d_Mo_follow_9 rfl (lv_at hl 2 rfl) ?_
    refine x_Mo_isColumn F (tt4 14 rfl rfl) ⟨Nat.le_of_ble_eq_true rfl, Nat.le_of_ble_eq_true rfl⟩ hK hP hl.1 (Nat.le_of_ble_eq_true rfl) ⟨Nat.zero_le _, Nat.zero_le _⟩ d_Mo_follow_10 ?_
    refine lv_if_eq (tgt := 25) hx hb d_Mo_follow_13 (by decide) (fun c4 => ?_) (fun c4 => ?_)
    · refine lv_iconst (v := 0) hx hb d_Mo_follow_25 (by decide) ?_
      refine lv_istore_n (lv' := [(3, .int 0), (0, .ref (ad 0)), (1, .int x), (2, .int y)]) hx hb d_Mo_follow_26 rfl hl (by decide) rfl (fun ls hl => ?_)
      refine lv_aload_n hx hb d_Mo_follow_27 rfl (lv_at hl 1 rfl) ?_
      refine lv_iload_n hx hb d_Mo_follow_28 rfl (lv_at hl 0 rfl) ?_
      refine lv_iload_n hx hb d_Mo_follow_29 rfl (lv_at hl 0 rfl) ?_
      refine lv_if_eq (tgt := 59) hx hb d_Mo_follow_30 (by decide) (fun c5 => ?_) (fun c5 => ?_)
      · refine lv_iconst (v := 0) hx hb d_Mo_follow_59 (by decide) ?_
        refine x_Mo_goes F (tt3 230 rfl rfl) ⟨Nat.le_of_ble_eq_true rfl, Nat.le_of_ble_eq_true rfl⟩ hK hP hD hS hA hl.1 (Nat.le_of_ble_eq_true rfl) ⟨Nat.zero_le _, Nat.zero_le _⟩ d_Mo_follow_60 (fun H locs hP hD hS => ?_)
        have ew : u3 σ 0 0 0 (mo_g 0 0) = u3 σ 0 0 0 1 := by simp [mo_g]
        rw [ew] at hP hD
        clear ew
        refine lv_if_ne (tgt := 68) hx hb d_Mo_follow_63 (by decide) (fun c6 => ?_) (fun c6 => ?_)
        · exact absurd (by simp [mo_g]) c6
        · refine lv_iconst (v := 0) hx hb d_Mo_follow_66 (by decide) ?_
          exact ok_iretM F hr hlk hP hD hS (rfl) d_Mo_follow_67
      · exact absurd rfl c5
    · refine lv_iload_n hx hb d_Mo_follow_16 rfl (lv_at hl 1 rfl) ?_
      refine lv_iload_n hx hb d_Mo_follow_17 rfl (lv_at hl 2 rfl) ?_
      refine lv_icmp_eq (tgt := 25) hx hb d_Mo_follow_18 (by decide) (fun c7 => ?_) (fun c7 => ?_)
      · refine lv_iconst (v := 0) hx hb d_Mo_follow_25 (by decide) ?_
        refine lv_istore_n (lv' := [(3, .int 0), (0, .ref (ad 0)), (1, .int x), (2, .int y)]) hx hb d_Mo_follow_26 rfl hl (by decide) rfl (fun ls hl => ?_)
        refine lv_aload_n hx hb d_Mo_follow_27 rfl (lv_at hl 1 rfl) ?_
        refine lv_iload_n hx hb d_Mo_follow_28 rfl (lv_at hl 0 rfl) ?_
        refine lv_iload_n hx hb d_Mo_follow_29 rfl (lv_at hl 0 rfl) ?_
        refine lv_if_eq (tgt := 59) hx hb d_Mo_follow_30 (by decide) (fun c8 => ?_) (fun c8 => ?_)
        · refine lv_iconst (v := 0) hx hb d_Mo_follow_59 (by decide) ?_
          refine x_Mo_goes F (tt3 230 rfl rfl) ⟨Nat.le_of_ble_eq_true rfl, Nat.le_of_ble_eq_true rfl⟩ hK hP hD hS hA hl.1 (Nat.le_of_ble_eq_true rfl) ⟨Nat.zero_le _, Nat.zero_le _⟩ d_Mo_follow_60 (fun H locs hP hD hS => ?_)
          have ew : u3 σ 0 0 0 (mo_g 0 0) = u3 σ 0 0 0 1 := by simp [mo_g]
          rw [ew] at hP hD
          clear ew
          refine lv_if_ne (tgt := 68) hx hb d_Mo_follow_63 (by decide) (fun c9 => ?_) (fun c9 => ?_)
          · exact absurd (by simp [mo_g]) c9
          · refine lv_iconst (v := 0) hx hb d_Mo_follow_66 (by decide) ?_
            exact ok_iretM F hr hlk hP hD hS (rfl) d_Mo_follow_67
        · exact absurd rfl c8
      · exact absurd hone (fun q => q.elim c1 (fun q => q.elim c4 c7))
theorem x_Mo_follow_1 {σ : oS} {x : Int32} {y : Int32} (hone : mo_in x 0 (σ 1 0 0 - 1) = 0 ∨ mo_in y 0 (σ 1 0 0 - 1) = 0 ∨ x = y) (F : CallFix p m c cc nL s args (cw :: tt) own) (hG : Cond.methodLink own index y_Mo_follow ∈ tt) (hR : 2 + 1 ≤ R.frames ∧ 8 + (4 + 11) + 43 ≤ R.locals) (hK : va_K D vwCl (mt cI cZ) s) (hP : va_P D vwCl (mw cI cZ ad σ) H) (hD : va_D A (mw cI cZ ad σ)) (hS : va_S A H0 H locs) (hA : ∀ q, H0.size ≤ q → A q) (hsz : ls.size = nL) (hW : (rest.map fun v => v.category).sum ≤ 8) (hcs : cells ≤ R.cells ∧ slots ≤ R.slots) (hdg : decode cc pc = .ok (.invokevirtual index, 3)) (kk : ∀ (H1 : Heap) (locs1 : List Loc), va_P D vwCl (mw cI cZ ad (u3 σ 0 0 0 1)) H1 → va_D A (mw cI cZ ad (u3 σ 0 0 0 1)) → va_S A H0 H1 locs1 → W p l e R s m args below meth c H1 locs1 cells slots Q (F0 m (pc + 3) ls (.int 0 :: rest))) : W p l e R s m args below meth c H locs cells slots Q (F0 m pc ls (.int y :: .int x :: .ref (ad 0) :: rest)) :=
  ok_VM (As := [.int x, .int y]) F (c_Mo_follow_1 σ hone) 2 (tt_V hG i_Mo_follow l_Mo_follow in9_Mo k_Mo_follow) rfl ⟨rfl, rfl⟩ (by decide +kernel) hR hK hP hD hS hA (0) 6 rfl rfl mw_0 rfl hsz rfl hW hcs hdg kk
set_option maxHeartbeats 4000000 in
set_option maxRecDepth 100000 in
theorem c_Mo_follow_2 (σ : oS) {x : Int32} {j : Nat} (hj : x = nI j) (hj9 : j < 5) {y : Int32} {t : Nat} (ht : y = nI t) (ht9 : t < 5) (h1 : mo_in x 0 (σ 1 0 0 - 1) = 1) (h2 : mo_in y 0 (σ 1 0 0 - 1) = 1) (h3 : ¬ x = y) (h4 : 10 ≤ σ 4 0 0 ∨ ¬ σ 18 0 (5 * j + t) = 0) : ok_MM l y_Mo_follow (Cond.code y_Mo_follow b_Mo_follow 4 (some .int) :: tt) { frames := 2, cells := 0, slots := 0, locals := 43 } D vwCl (mt cI cZ) (mw cI cZ ad σ) (mw cI cZ ad (u3 σ 0 0 0 2)) [.ref (ad 0), .int x, .int y] (some (.int 0)) := by
  refine ok_startM (cc := b_Mo_follow) (own := RMo) (maxL := 4) (ret := (some .int)) (by decide +kernel) rfl rfl (Nat.le_of_ble_eq_true rfl) ?_
  intro p e s m below meth c A F hr hlk hA hP hK hD hS ls hl
  have hl : lv_has ls 4 [(0, .ref (ad 0)), (1, .int x), (2, .int y)] := hl
  have hx := F.1
  have hb := F.2.1
  refine lv_aload_n hx hb d_Mo_follow_0 rfl (lv_at hl 0 rfl) ?_
  refine lv_iload_n hx hb d_Mo_follow_1 rfl (lv_at hl 1 rfl) ?_
  refine x_Mo_isColumn F (tt4 14 rfl rfl) ⟨Nat.le_of_ble_eq_true rfl, Nat.le_of_ble_eq_true rfl⟩ hK hP hl.1 (Nat.le_of_ble_eq_true rfl) ⟨Nat.zero_le _, Nat.zero_le _⟩ d_Mo_follow_2 ?_
  refine lv_if_eq (tgt := 25) hx hb d_Mo_follow_5 (by decide) (fun c1 => ?_) (fun c1 => ?_)
  · first | exact absurd c1 (by rw [h1]; decide) | exact absurd c1 (by rw [h2]; decide) | exact absurd c1 h3
  · refine lv_aload_n hx hb d_Mo_follow_8 rfl (lv_at hl 0 rfl) ?_
    refine lv_iload_n hx hb d_Mo_follow_9 rfl (lv_at hl 2 rfl) ?_
    refine x_Mo_isColumn F (tt4 14 rfl rfl) ⟨Nat.le_of_ble_eq_true rfl, Nat.le_of_ble_eq_true rfl⟩ hK hP hl.1 (Nat.le_of_ble_eq_true rfl) ⟨Nat.zero_le _, Nat.zero_le _⟩ d_Mo_follow_10 ?_
    refine lv_if_eq (tgt := 25) hx hb d_Mo_follow_13 (by decide) (fun c2 => ?_) (fun c2 => ?_)
    · first | exact absurd c2 (by rw [h1]; decide) | exact absurd c2 (by rw [h2]; decide) | exact absurd c2 h3
    · refine lv_iload_n hx hb d_Mo_follow_16 rfl (lv_at hl 1 rfl) ?_
      refine lv_iload_n hx hb d_Mo_follow_17 rfl (lv_at hl 2 rfl) ?_
      refine lv_icmp_eq (tgt := 25) hx hb d_Mo_follow_18 (by decide) (fun c3 => ?_) (fun c3 => ?_)
      · first | exact absurd c3 (by rw [h1]; decide) | exact absurd c3 (by rw [h2]; decide) | exact absurd c3 h3
      · refine lv_iconst (v := 1) hx hb d_Mo_follow_21 (by decide) ?_
        refine lv_goto (tgt := 26) hx hb d_Mo_follow_22 (by decide) ?_
        refine lv_istore_n (lv' := [(3, .int 1), (0, .ref (ad 0)), (1, .int x), (2, .int y)]) hx hb d_Mo_follow_26 rfl hl (by decide) rfl (fun ls hl => ?_)
        refine lv_aload_n hx hb d_Mo_follow_27 rfl (lv_at hl 1 rfl) ?_
        refine lv_iload_n hx hb d_Mo_follow_28 rfl (lv_at hl 0 rfl) ?_
        refine lv_iload_n hx hb d_Mo_follow_29 rfl (lv_at hl 0 rfl) ?_
        refine lv_if_eq (tgt := 59) hx hb d_Mo_follow_30 (by decide) (fun c4 => ?_) (fun c4 => ?_)
        · exact absurd c4 (by decide)
        · refine lv_aload_n hx hb d_Mo_follow_33 rfl (lv_at hl 1 rfl) ?_
          refine gf_Mo_follows F hK hP d_Mo_follow_34 ?_
          refine lv_bipush (v := 10) hx hb d_Mo_follow_37 (by decide) ?_
          refine lv_icmp_ge (tgt := 59) hx hb d_Mo_follow_39 (by decide) (fun c5 => ?_) (fun c5 => ?_)
          · refine lv_iconst (v := 0) hx hb d_Mo_follow_59 (by decide) ?_
            refine x_Mo_goes F (tt3 230 rfl rfl) ⟨Nat.le_of_ble_eq_true rfl, Nat.le_of_ble_eq_true rfl⟩ hK hP hD hS hA hl.1 (Nat.le_of_ble_eq_true rfl) ⟨Nat.zero_le _, Nat.zero_le _⟩ d_Mo_follow_60 (fun H locs hP hD hS => ?_)
            have ew : u3 σ 0 0 0 (mo_g 1 0) = u3 σ 0 0 0 2 := by simp [mo_g]
            rw [ew] at hP hD
            clear ew
            refine lv_if_ne (tgt := 68) hx hb d_Mo_follow_63 (by decide) (fun c6 => ?_) (fun c6 => ?_)
            · exact absurd (by simp [mo_g]) c6
            · refine lv_iconst (v := 0) hx hb d_Mo_follow_66 (by decide) ?_
              exact ok_iretM F hr hlk hP hD hS (rfl) d_Mo_follow_67
          · refine lv_aload_n hx hb d_Mo_follow_42 rfl (lv_at hl 1 rfl) ?_
            refine gf_Mo_behind F hK hP d_Mo_follow_43 ?_
            refine lv_iconst (v := 5) hx hb d_Mo_follow_46 (by decide) ?_
            refine lv_iload_n hx hb d_Mo_follow_47 rfl (lv_at hl 2 rfl) ?_
            refine lv_imul hx hb d_Mo_follow_48 ?_
            refine lv_iload_n hx hb d_Mo_follow_49 rfl (lv_at hl 3 rfl) ?_
            refine lv_iadd hx hb d_Mo_follow_50 ?_
            refine im_18 (j := (5 * j + t)) F hK hP (by rw [hj, ht]; exact mo_ix) (by omega) d_Mo_follow_51 ?_
            refine lv_if_ne (tgt := 59) hx hb d_Mo_follow_52 (by decide) (fun c7 => ?_) (fun c7 => ?_)
            · refine lv_iconst (v := 0) hx hb d_Mo_follow_59 (by decide) ?_
              refine x_Mo_goes F (tt3 230 rfl rfl) ⟨Nat.le_of_ble_eq_true rfl, Nat.le_of_ble_eq_true rfl⟩ hK hP hD hS hA hl.1 (Nat.le_of_ble_eq_true rfl) ⟨Nat.zero_le _, Nat.zero_le _⟩ d_Mo_follow_60 (fun H locs hP hD hS => ?_)
              have ew : u3 σ 0 0 0 (mo_g 1 0) = u3 σ 0 0 0 2 := by simp [mo_g]
              rw [ew] at hP hD
              clear ew
              refine lv_if_ne (tgt := 68) hx hb d_Mo_follow_63 (by decide) (fun c8 => ?_) (fun c8 => ?_)
              · exact absurd (by simp [mo_g]) c8
              · refine lv_iconst (v := 0) hx hb d_Mo_follow_66 (by decide) ?_
                exact ok_iretM F hr hlk hP hD hS (rfl) d_Mo_follow_67
            · exact absurd h4 (fun q => q.elim c5 (fun q => q c7))
theorem x_Mo_follow_2 {σ : oS} {x : Int32} {j : Nat} (hj : x = nI j) (hj9 : j < 5) {y : Int32} {t : Nat} (ht : y = nI t) (ht9 : t < 5) (h1 : mo_in x 0 (σ 1 0 0 - 1) = 1) (h2 : mo_in y 0 (σ 1 0 0 - 1) = 1) (h3 : ¬ x = y) (h4 : 10 ≤ σ 4 0 0 ∨ ¬ σ 18 0 (5 * j + t) = 0) (F : CallFix p m c cc nL s args (cw :: tt) own) (hG : Cond.methodLink own index y_Mo_follow ∈ tt) (hR : 2 + 1 ≤ R.frames ∧ 8 + (4 + 11) + 43 ≤ R.locals) (hK : va_K D vwCl (mt cI cZ) s) (hP : va_P D vwCl (mw cI cZ ad σ) H) (hD : va_D A (mw cI cZ ad σ)) (hS : va_S A H0 H locs) (hA : ∀ q, H0.size ≤ q → A q) (hsz : ls.size = nL) (hW : (rest.map fun v => v.category).sum ≤ 8) (hcs : cells ≤ R.cells ∧ slots ≤ R.slots) (hdg : decode cc pc = .ok (.invokevirtual index, 3)) (kk : ∀ (H1 : Heap) (locs1 : List Loc), va_P D vwCl (mw cI cZ ad (u3 σ 0 0 0 2)) H1 → va_D A (mw cI cZ ad (u3 σ 0 0 0 2)) → va_S A H0 H1 locs1 → W p l e R s m args below meth c H1 locs1 cells slots Q (F0 m (pc + 3) ls (.int 0 :: rest))) : W p l e R s m args below meth c H locs cells slots Q (F0 m pc ls (.int y :: .int x :: .ref (ad 0) :: rest)) :=
  ok_VM (As := [.int x, .int y]) F (c_Mo_follow_2 σ hj hj9 ht ht9 h1 h2 h3 h4) 2 (tt_V hG i_Mo_follow l_Mo_follow in9_Mo k_Mo_follow) rfl ⟨rfl, rfl⟩ (by decide +kernel) hR hK hP hD hS hA (0) 6 rfl rfl mw_0 rfl hsz rfl hW hcs hdg kk
set_option maxHeartbeats 4000000 in
set_option maxRecDepth 100000 in
theorem c_Mo_contradiction (σ : oS) {r : Nat} {u : Nat} (h_r : σ 2 0 0 = nI r) (h_u : σ 3 0 0 = nI u) (hr4 : r ≤ 4) (hu4 : u ≤ 4) {n : Nat} (hn : σ 1 0 0 = nI n) (hn9 : n ≤ 5) (hok : mo_ok σ u) : ok_MM l y_Mo_contradiction (Cond.code y_Mo_contradiction b_Mo_contradiction 2 (some .int) :: tt) { frames := 2, cells := 0, slots := 0, locals := 49 } D vwCl (mt cI cZ) (mw cI cZ ad σ) (mw cI cZ ad (u3 σ 0 0 0 0)) [.ref (ad 0)] (some (.int (ob_o (-1) 0 (md_D (u3 σ 0 0 0 0) r u n)))) := by
  refine ok_startM (cc := b_Mo_contradiction) (own := RMo) (maxL := 2) (ret := (some .int)) (by decide +kernel) rfl rfl (Nat.le_of_ble_eq_true rfl) ?_
  intro p e s m below meth c A F hr hlk hA hP hK hD hS ls hl
  have hl : lv_has ls 2 [(0, .ref (ad 0))] := hl
  have hx := F.1
  have hb := F.2.1
  have lp : ∀ (f k : Nat), k ≤ (r + u) → (r + u) - k < f → ob_o (-1) 0 (md_D (u3 σ 0 0 0 0) r u n) = ob_o (-1) 0 (ob_first (fun k => mo_h (u3 σ 0 0 0 0) r k (mo_s2 (u3 σ 0 0 0 0) r k 0 (mo_s1 (u3 σ 0 0 0 0) r k 11 0) n) == 0) (r + u - k) k) → ∀ (H : Heap) (locs : List Loc), va_P D vwCl (mw cI cZ ad (u3 σ 0 0 0 0)) H → va_D A (mw cI cZ ad (u3 σ 0 0 0 0)) → va_S A s.heap H locs → ∀ ls : Array Slot, lv_has ls 2 [(1, .int (nI k)), (0, .ref (ad 0))] → W p l e { frames := 2, cells := 0, slots := 0, locals := 49 } s m ([.ref (ad 0)] : List Value).toArray below meth c H locs 0 0 (MQ below (ok_qA D vwCl A (mw cI cZ ad (u3 σ 0 0 0 0)) (some (.int (ob_o (-1) 0 (md_D (u3 σ 0 0 0 0) r u n))))) ([.ref (ad 0)] : List Value).toArray s 0 0 A) (F0 m 7 ls []) := by
    intro f
    induction f with
    | zero => intro k h1 h2; omega
    | succ f ih =>
      intro k h1 h2 hin H locs hP hD hS ls hl
      refine lv_iload_n hx hb d_Mo_contradiction_7 rfl (lv_at hl 0 rfl) ?_
      refine lv_aload_n hx hb d_Mo_contradiction_8 rfl (lv_at hl 1 rfl) ?_
      refine gf_Mo_rows F hK hP d_Mo_contradiction_9 ?_
      refine lv_aload_n hx hb d_Mo_contradiction_12 rfl (lv_at hl 1 rfl) ?_
      refine gf_Mo_cuts F hK hP d_Mo_contradiction_13 ?_
      refine lv_iadd hx hb d_Mo_contradiction_16 ?_
      refine lv_icmp_ge (tgt := 41) hx hb d_Mo_contradiction_17 (by decide) (fun c1 => ?_) (fun c1 => ?_)
      · have hkn : (r + u) = k := by
          rw [show (u3 σ 0 0 0 0) 2 0 0 + (u3 σ 0 0 0 0) 3 0 0 = nI (r + u) by rw [u3_c (by decide), u3_c (by decide)]; exact mo_cnt h_r h_u, nI_leI (by omega) (by omega)] at c1; omega
        subst hkn
        refine lv_iconst (v := -1) hx hb d_Mo_contradiction_41 (by decide) ?_
        exact ok_iretM F hr hlk hP hD hS (by rw [hin, Nat.sub_self]; rfl) d_Mo_contradiction_42
      · have hkn : k < (r + u) := by
          rw [show (u3 σ 0 0 0 0) 2 0 0 + (u3 σ 0 0 0 0) 3 0 0 = nI (r + u) by rw [u3_c (by decide), u3_c (by decide)]; exact mo_cnt h_r h_u, nI_leI (by omega) (by omega)] at c1; omega
        refine lv_aload_n hx hb d_Mo_contradiction_20 rfl (lv_at hl 1 rfl) ?_
        refine lv_iload_n hx hb d_Mo_contradiction_21 rfl (lv_at hl 0 rfl) ?_
        refine lv_aload_n hx hb d_Mo_contradiction_22 rfl (lv_at hl 1 rfl) ?_
        refine gf_Mo_number F hK hP d_Mo_contradiction_23 ?_
        refine lv_iconst (v := 0) hx hb d_Mo_contradiction_26 (by decide) ?_
        refine x_Mo_canHold (r := r) (u := u) (by rw [u3_c (by decide)]; exact h_r) (by rw [u3_c (by decide)]; exact h_u) hr4 hu4 (n := n) (by rw [u3_c (by decide)]; exact hn) hn9 (mo_ok_of (u3_c (by decide)) (u3_c (by decide)) hok) (k := k) rfl (by omega) (by omega) (w := 11) (by decide) (m0 := 0) (by decide) (by omega) (by omega) F (tt4 39 rfl rfl) ⟨Nat.le_of_ble_eq_true rfl, Nat.le_of_ble_eq_true rfl⟩ hK hP hl.1 (Nat.le_of_ble_eq_true rfl) ⟨Nat.zero_le _, Nat.zero_le _⟩ d_Mo_contradiction_27 ?_
        refine lv_if_ne (tgt := 35) hx hb d_Mo_contradiction_30 (by decide) (fun c2 => ?_) (fun c2 => ?_)
        · refine lv_iinc (v := nI (k + 1)) (lv' := [(1, .int (nI (k + 1))), (0, .ref (ad 0))]) hx hb d_Mo_contradiction_35 hl (k := 0) rfl (nI_inc _) (by decide) rfl (fun ls hl => ?_)
          refine lv_goto (tgt := 7) hx hb d_Mo_contradiction_38 (by decide) ?_
          exact ih (k + 1) (by omega) (by omega) (by rw [hin, show r + u - k = (r + u - (k + 1)) + 1 by omega, ob_first, if_neg (by simpa using c2)]) H locs hP hD hS ls (lv_sub hl [0, 1] rfl)
        · refine lv_iload_n hx hb d_Mo_contradiction_33 rfl (lv_at hl 0 rfl) ?_
          exact ok_iretM F hr hlk hP hD hS (by rw [hin, show r + u - k = (r + u - (k + 1)) + 1 by omega, ob_first, if_pos (by simpa using c2), ob_o, Int32.zero_add]) d_Mo_contradiction_34
  refine lv_aload_n hx hb d_Mo_contradiction_0 rfl (lv_at hl 0 rfl) ?_
  refine lv_iconst (v := 0) hx hb d_Mo_contradiction_1 (by decide) ?_
  refine pf_Mo_thrown F hK hP hD hS d_Mo_contradiction_2 (fun H locs hP hD hS => ?_)
  refine lv_iconst (v := 0) hx hb d_Mo_contradiction_5 (by decide) ?_
  refine lv_istore_n (lv' := [(1, .int 0), (0, .ref (ad 0))]) hx hb d_Mo_contradiction_6 rfl hl (by decide) rfl (fun ls hl => ?_)
  exact lp ((r + u) + 1) 0 (by omega) (by omega) (rfl) _ _ hP hD hS ls (lv_sub hl [0, 1] rfl)
theorem x_Mo_contradiction {σ : oS} {r : Nat} {u : Nat} (h_r : σ 2 0 0 = nI r) (h_u : σ 3 0 0 = nI u) (hr4 : r ≤ 4) (hu4 : u ≤ 4) {n : Nat} (hn : σ 1 0 0 = nI n) (hn9 : n ≤ 5) (hok : mo_ok σ u) (F : CallFix p m c cc nL s args (cw :: tt) own) (hG : Cond.methodLink own index y_Mo_contradiction ∈ tt) (hR : 2 + 1 ≤ R.frames ∧ 8 + (2 + 11) + 49 ≤ R.locals) (hK : va_K D vwCl (mt cI cZ) s) (hP : va_P D vwCl (mw cI cZ ad σ) H) (hD : va_D A (mw cI cZ ad σ)) (hS : va_S A H0 H locs) (hA : ∀ q, H0.size ≤ q → A q) (hsz : ls.size = nL) (hW : (rest.map fun v => v.category).sum ≤ 8) (hcs : cells ≤ R.cells ∧ slots ≤ R.slots) (hdg : decode cc pc = .ok (.invokevirtual index, 3)) (kk : ∀ (H1 : Heap) (locs1 : List Loc), va_P D vwCl (mw cI cZ ad (u3 σ 0 0 0 0)) H1 → va_D A (mw cI cZ ad (u3 σ 0 0 0 0)) → va_S A H0 H1 locs1 → W p l e R s m args below meth c H1 locs1 cells slots Q (F0 m (pc + 3) ls (.int (ob_o (-1) 0 (md_D (u3 σ 0 0 0 0) r u n)) :: rest))) : W p l e R s m args below meth c H locs cells slots Q (F0 m pc ls (.ref (ad 0) :: rest)) :=
  ok_VM (As := []) F (c_Mo_contradiction σ h_r h_u hr4 hu4 hn hn9 hok) 0 (tt_V hG i_Mo_contradiction l_Mo_contradiction in9_Mo k_Mo_contradiction) rfl ⟨rfl, rfl⟩ (by decide +kernel) hR hK hP hD hS hA (0) 6 rfl rfl mw_0 rfl hsz rfl hW hcs hdg kk
set_option maxHeartbeats 4000000 in
set_option maxRecDepth 100000 in
theorem c_Mo_certificate (σ : oS) {r : Nat} {u : Nat} (h_r : σ 2 0 0 = nI r) (h_u : σ 3 0 0 = nI u) (hr4 : r ≤ 4) (hu4 : u ≤ 4) {n : Nat} (hn : σ 1 0 0 = nI n) (hn9 : n ≤ 5) (hok : mo_ok σ u) : ok_MM l y_Mo_certificate (Cond.code y_Mo_certificate b_Mo_certificate 7 (some .long) :: tt) { frames := 1, cells := 0, slots := 0, locals := 23 } D vwCl (mt cI cZ) (mw cI cZ ad σ) (mw cI cZ ad (u3 σ 0 0 0 0)) [.ref (ad 0)] (some (.long (me_q (me_2 (u3 σ 0 0 0 0) r u n)))) := by
  refine ok_startM (cc := b_Mo_certificate) (own := RMo) (maxL := 7) (ret := (some .long)) (by decide +kernel) rfl rfl (Nat.le_of_ble_eq_true rfl) ?_
  intro p e s m below meth c A F hr hlk hA hP hK hD hS ls hl
  have hl : lv_has ls 7 [(0, .ref (ad 0))] := hl
  have hx := F.1
  have hb := F.2.1
  have lq : ∀ (f c9 : Nat), c9 ≤ n → n - c9 < f → ∀ (H : Heap) (locs : List Loc), va_P D vwCl (mw cI cZ ad (u3 σ 0 0 0 0)) H → va_D A (mw cI cZ ad (u3 σ 0 0 0 0)) → va_S A s.heap H locs → ∀ ls : Array Slot, lv_has ls 7 [(3, .int (nI c9)), (1, .long (me_2 (u3 σ 0 0 0 0) r u c9)), (0, .ref (ad 0))] → W p l e { frames := 1, cells := 0, slots := 0, locals := 23 } s m ([.ref (ad 0)] : List Value).toArray below meth c H locs 0 0 (MQ below (ok_qA D vwCl A (mw cI cZ ad (u3 σ 0 0 0 0)) (some (.long (me_q (me_2 (u3 σ 0 0 0 0) r u n))))) ([.ref (ad 0)] : List Value).toArray s 0 0 A) (F0 m 47 ls []) := by
    intro f
    induction f with
    | zero => intro c9 h1 h2; omega
    | succ f ih =>
      intro c9 h1 h2 H locs hP hD hS ls hl
      refine lv_iload_n hx hb d_Mo_certificate_47 rfl (lv_at hl 0 rfl) ?_
      refine lv_aload_n hx hb d_Mo_certificate_48 rfl (lv_at hl 2 rfl) ?_
      refine gf_Mo_columns F hK hP d_Mo_certificate_49 ?_
      refine lv_icmp_ge (tgt := 139) hx hb d_Mo_certificate_52 (by decide) (fun c1 => ?_) (fun c1 => ?_)
      · have hcn : n = c9 := by
          rw [u3_c (by decide), hn, nI_leI (by omega) (by omega)] at c1; omega
        subst hcn
        refine lv_lload_n hx hb d_Mo_certificate_139 rfl (lv_at hl 1 rfl) ?_
        refine lv_ldc2 (v := 1000) hx hb F.2.2.2.1 (F.2.2.2.2 (.constantLong RMo 130 (1000)) (List.mem_cons_of_mem _ (tt4 77 rfl rfl))) d_Mo_certificate_140 ?_
        refine lv_ldiv hx hb d_Mo_certificate_143 (by decide) ?_
        refine lv_lstore_n (lv' := [(3, .long ((me_2 (u3 σ 0 0 0 0) r u n) / 1000)), (1, .long (me_2 (u3 σ 0 0 0 0) r u n)), (0, .ref (ad 0))]) hx hb d_Mo_certificate_144 rfl hl (by decide) rfl (fun ls hl => ?_)
        refine lv_lload_n hx hb d_Mo_certificate_145 rfl (lv_at hl 0 rfl) ?_
        refine lv_ldc2 (v := 1000) hx hb F.2.2.2.1 (F.2.2.2.2 (.constantLong RMo 130 (1000)) (List.mem_cons_of_mem _ (tt4 77 rfl rfl))) d_Mo_certificate_146 ?_
        refine lv_lmul hx hb d_Mo_certificate_149 ?_
        refine lv_lload_n hx hb d_Mo_certificate_150 rfl (lv_at hl 1 rfl) ?_
        refine W.lcmp hx hb d_Mo_certificate_151 ?_
        refine lv_if_le (tgt := 161) hx hb d_Mo_certificate_152 (by decide) (fun c2 => ?_) (fun c2 => ?_)
        · refine lv_lload_n hx hb d_Mo_certificate_161 rfl (lv_at hl 0 rfl) ?_
          exact ok_lretM F hr hlk hP hD hS (by rw [me_q]; first | rw [if_pos c2] | rw [if_neg c2]) d_Mo_certificate_162
        · refine lv_lload_n hx hb d_Mo_certificate_155 rfl (lv_at hl 0 rfl) ?_
          refine lv_lconst (v := 1) hx hb d_Mo_certificate_156 (by decide) ?_
          refine lv_lsub hx hb d_Mo_certificate_157 ?_
          refine lv_goto (tgt := 162) hx hb d_Mo_certificate_158 (by decide) ?_
          exact ok_lretM F hr hlk hP hD hS (by rw [me_q]; first | rw [if_pos c2] | rw [if_neg c2]) d_Mo_certificate_162
      · have hcn : c9 < n := by
          rw [u3_c (by decide), hn, nI_leI (by omega) (by omega)] at c1; omega
        refine lv_ldc2 (v := 1000) hx hb F.2.2.2.1 (F.2.2.2.2 (.constantLong RMo 130 (1000)) (List.mem_cons_of_mem _ (tt4 77 rfl rfl))) d_Mo_certificate_55 ?_
        refine lv_aload_n hx hb d_Mo_certificate_58 rfl (lv_at hl 2 rfl) ?_
        refine gf_Mo_worth F hK hP d_Mo_certificate_59 ?_
        refine lv_iload_n hx hb d_Mo_certificate_62 rfl (lv_at hl 0 rfl) ?_
        refine im_10 (j := c9) F hK hP rfl (by omega) d_Mo_certificate_63 ?_
        refine lv_i2l hx hb d_Mo_certificate_64 rfl ?_
        refine lv_lmul hx hb d_Mo_certificate_65 ?_
        refine lv_lstore (lv' := [(4, .long (1000 * (Int32.toInt64 ((u3 σ 0 0 0 0) 10 0 c9)))), (3, .int (nI c9)), (1, .long (me_2 (u3 σ 0 0 0 0) r u c9)), (0, .ref (ad 0))]) hx hb d_Mo_certificate_66 hl (by decide) rfl (fun ls hl => ?_)
        refine lv_iconst (v := 0) hx hb d_Mo_certificate_68 (by decide) ?_
        refine lv_istore (lv' := [(6, .int 0), (4, .long (1000 * (Int32.toInt64 ((u3 σ 0 0 0 0) 10 0 c9)))), (3, .int (nI c9)), (1, .long (me_2 (u3 σ 0 0 0 0) r u c9)), (0, .ref (ad 0))]) hx hb d_Mo_certificate_69 hl (by decide) rfl (fun ls hl => ?_)
        have lr : ∀ (f k : Nat), k ≤ r + u → r + u - k < f → ∀ (H : Heap) (locs : List Loc), va_P D vwCl (mw cI cZ ad (u3 σ 0 0 0 0)) H → va_D A (mw cI cZ ad (u3 σ 0 0 0 0)) → va_S A s.heap H locs → ∀ ls : Array Slot, lv_has ls 7 [(6, .int (nI k)), (4, .long (me_v (u3 σ 0 0 0 0) r c9 k)), (3, .int (nI c9)), (1, .long (me_2 (u3 σ 0 0 0 0) r u c9)), (0, .ref (ad 0))] → W p l e { frames := 1, cells := 0, slots := 0, locals := 23 } s m ([.ref (ad 0)] : List Value).toArray below meth c H locs 0 0 (MQ below (ok_qA D vwCl A (mw cI cZ ad (u3 σ 0 0 0 0)) (some (.long (me_q (me_2 (u3 σ 0 0 0 0) r u n))))) ([.ref (ad 0)] : List Value).toArray s 0 0 A) (F0 m 71 ls []) := by
          intro f
          induction f with
          | zero => intro k h1 h2; omega
          | succ f ihr =>
            intro k h1 h2 H locs hP hD hS ls hl
            refine lv_iload hx hb d_Mo_certificate_71 (lv_at hl 0 rfl) ?_
            refine lv_aload_n hx hb d_Mo_certificate_73 rfl (lv_at hl 4 rfl) ?_
            refine gf_Mo_rows F hK hP d_Mo_certificate_74 ?_
            refine lv_aload_n hx hb d_Mo_certificate_77 rfl (lv_at hl 4 rfl) ?_
            refine gf_Mo_cuts F hK hP d_Mo_certificate_78 ?_
            refine lv_iadd hx hb d_Mo_certificate_81 ?_
            refine lv_icmp_ge (tgt := 113) hx hb d_Mo_certificate_82 (by decide) (fun c3 => ?_) (fun c3 => ?_)
            · have hkn : r + u = k := by
                rw [show (u3 σ 0 0 0 0) 2 0 0 + (u3 σ 0 0 0 0) 3 0 0 = nI (r + u) by rw [u3_c (by decide), u3_c (by decide)]; exact mo_cnt h_r h_u, nI_leI (by omega) (by omega)] at c3; omega
              subst hkn
              refine lv_lload hx hb d_Mo_certificate_113 (lv_at hl 1 rfl) ?_
              refine lv_lconst (v := 0) hx hb d_Mo_certificate_115 (by decide) ?_
              refine W.lcmp hx hb d_Mo_certificate_116 ?_
              refine lv_if_le (tgt := 133) hx hb d_Mo_certificate_117 (by decide) (fun c4 => ?_) (fun c4 => ?_)
              · refine lv_iinc (v := nI (c9 + 1)) (lv' := [(3, .int (nI (c9 + 1))), (6, .int (nI (r + u))), (4, .long (me_v (u3 σ 0 0 0 0) r c9 (r + u))), (1, .long (me_2 (u3 σ 0 0 0 0) r u c9)), (0, .ref (ad 0))]) hx hb d_Mo_certificate_133 hl (k := 2) rfl (nI_inc _) (by decide) rfl (fun ls hl => ?_)
                refine lv_goto (tgt := 47) hx hb d_Mo_certificate_136 (by decide) ?_
                have e9 : me_2 (u3 σ 0 0 0 0) r u (c9 + 1) = me_2 (u3 σ 0 0 0 0) r u c9 := by
                  rw [me_2]; first | rw [if_pos c4] | rw [if_neg c4]
                exact ih (c9 + 1) (by omega) (by omega) H locs hP hD hS ls (by rw [e9]; exact (lv_sub hl [0, 3, 4] rfl))
              · refine lv_lload_n hx hb d_Mo_certificate_120 rfl (lv_at hl 3 rfl) ?_
                refine lv_lload hx hb d_Mo_certificate_121 (lv_at hl 1 rfl) ?_
                refine lv_aload_n hx hb d_Mo_certificate_123 rfl (lv_at hl 4 rfl) ?_
                refine gf_Mo_top F hK hP d_Mo_certificate_124 ?_
                refine lv_iload_n hx hb d_Mo_certificate_127 rfl (lv_at hl 2 rfl) ?_
                refine im_11 (j := c9) F hK hP rfl (by omega) d_Mo_certificate_128 ?_
                refine lv_i2l hx hb d_Mo_certificate_129 rfl ?_
                refine lv_lmul hx hb d_Mo_certificate_130 ?_
                refine lv_ladd hx hb d_Mo_certificate_131 ?_
                refine lv_lstore_n (lv' := [(1, .long ((me_2 (u3 σ 0 0 0 0) r u c9) + ((me_v (u3 σ 0 0 0 0) r c9 (r + u)) * (Int32.toInt64 ((u3 σ 0 0 0 0) 11 0 c9))))), (6, .int (nI (r + u))), (4, .long (me_v (u3 σ 0 0 0 0) r c9 (r + u))), (3, .int (nI c9)), (0, .ref (ad 0))]) hx hb d_Mo_certificate_132 rfl hl (by decide) rfl (fun ls hl => ?_)
                refine lv_iinc (v := nI (c9 + 1)) (lv' := [(3, .int (nI (c9 + 1))), (1, .long ((me_2 (u3 σ 0 0 0 0) r u c9) + ((me_v (u3 σ 0 0 0 0) r c9 (r + u)) * (Int32.toInt64 ((u3 σ 0 0 0 0) 11 0 c9))))), (6, .int (nI (r + u))), (4, .long (me_v (u3 σ 0 0 0 0) r c9 (r + u))), (0, .ref (ad 0))]) hx hb d_Mo_certificate_133 hl (k := 3) rfl (nI_inc _) (by decide) rfl (fun ls hl => ?_)
                refine lv_goto (tgt := 47) hx hb d_Mo_certificate_136 (by decide) ?_
                have e9 : me_2 (u3 σ 0 0 0 0) r u (c9 + 1) = (me_2 (u3 σ 0 0 0 0) r u c9) + ((me_v (u3 σ 0 0 0 0) r c9 (r + u)) * (Int32.toInt64 ((u3 σ 0 0 0 0) 11 0 c9))) := by
                  rw [me_2]; first | rw [if_pos c4] | rw [if_neg c4]
                exact ih (c9 + 1) (by omega) (by omega) H locs hP hD hS ls (by rw [e9]; exact (lv_sub hl [0, 1, 4] rfl))
            · have hkn : k < r + u := by
                rw [show (u3 σ 0 0 0 0) 2 0 0 + (u3 σ 0 0 0 0) 3 0 0 = nI (r + u) by rw [u3_c (by decide), u3_c (by decide)]; exact mo_cnt h_r h_u, nI_leI (by omega) (by omega)] at c3; omega
              refine lv_lload hx hb d_Mo_certificate_85 (lv_at hl 1 rfl) ?_
              refine lv_aload_n hx hb d_Mo_certificate_87 rfl (lv_at hl 4 rfl) ?_
              refine gf_Mo_multiplier F hK hP d_Mo_certificate_88 ?_
              refine lv_iload hx hb d_Mo_certificate_91 (lv_at hl 0 rfl) ?_
              refine im_17 (j := k) F hK hP rfl (by omega) d_Mo_certificate_93 ?_
              refine lv_i2l hx hb d_Mo_certificate_94 rfl ?_
              refine lv_aload_n hx hb d_Mo_certificate_95 rfl (lv_at hl 4 rfl) ?_
              refine lv_iload hx hb d_Mo_certificate_96 (lv_at hl 0 rfl) ?_
              refine lv_iload_n hx hb d_Mo_certificate_98 rfl (lv_at hl 2 rfl) ?_
              refine x_Mo_factorOf (r := r) (u := u) (by rw [u3_c (by decide)]; exact h_r) (by rw [u3_c (by decide)]; exact h_u) hr4 hu4 (k := k) rfl (by omega) (by omega) (j := c9) rfl (by omega) F (tt4 43 rfl rfl) ⟨Nat.le_of_ble_eq_true rfl, Nat.le_of_ble_eq_true rfl⟩ hK hP hl.1 (Nat.le_of_ble_eq_true rfl) ⟨Nat.zero_le _, Nat.zero_le _⟩ d_Mo_certificate_99 ?_
              refine lv_i2l hx hb d_Mo_certificate_102 rfl ?_
              refine lv_lmul hx hb d_Mo_certificate_103 ?_
              refine lv_lsub hx hb d_Mo_certificate_104 ?_
              refine lv_lstore (lv' := [(4, .long ((me_v (u3 σ 0 0 0 0) r c9 k) - ((Int32.toInt64 ((u3 σ 0 0 0 0) 17 0 k)) * (Int32.toInt64 (mo_f (u3 σ 0 0 0 0) r k c9))))), (6, .int (nI k)), (3, .int (nI c9)), (1, .long (me_2 (u3 σ 0 0 0 0) r u c9)), (0, .ref (ad 0))]) hx hb d_Mo_certificate_105 hl (by decide) rfl (fun ls hl => ?_)
              refine lv_iinc (v := nI (k + 1)) (lv' := [(6, .int (nI (k + 1))), (4, .long ((me_v (u3 σ 0 0 0 0) r c9 k) - ((Int32.toInt64 ((u3 σ 0 0 0 0) 17 0 k)) * (Int32.toInt64 (mo_f (u3 σ 0 0 0 0) r k c9))))), (3, .int (nI c9)), (1, .long (me_2 (u3 σ 0 0 0 0) r u c9)), (0, .ref (ad 0))]) hx hb d_Mo_certificate_107 hl (k := 1) rfl (nI_inc _) (by decide) rfl (fun ls hl => ?_)
              refine lv_goto (tgt := 71) hx hb d_Mo_certificate_110 (by decide) ?_
              exact ihr (k + 1) (by omega) (by omega) H locs hP hD hS ls (lv_sub hl [0, 1, 2, 3, 4] rfl)
        exact lr (r + u + 1) 0 (by omega) (by omega) H locs hP hD hS ls (lv_sub hl [0, 1, 2, 3, 4] rfl)
  have lp : ∀ (f k : Nat), k ≤ (r + u) → (r + u) - k < f → ∀ (H : Heap) (locs : List Loc), va_P D vwCl (mw cI cZ ad (u3 σ 0 0 0 0)) H → va_D A (mw cI cZ ad (u3 σ 0 0 0 0)) → va_S A s.heap H locs → ∀ ls : Array Slot, lv_has ls 7 [(3, .int (nI k)), (1, .long (me_1 (u3 σ 0 0 0 0) r k)), (0, .ref (ad 0))] → W p l e { frames := 1, cells := 0, slots := 0, locals := 23 } s m ([.ref (ad 0)] : List Value).toArray below meth c H locs 0 0 (MQ below (ok_qA D vwCl A (mw cI cZ ad (u3 σ 0 0 0 0)) (some (.long (me_q (me_2 (u3 σ 0 0 0 0) r u n))))) ([.ref (ad 0)] : List Value).toArray s 0 0 A) (F0 m 9 ls []) := by
    intro f
    induction f with
    | zero => intro k h1 h2; omega
    | succ f ih =>
      intro k h1 h2 H locs hP hD hS ls hl
      refine lv_iload_n hx hb d_Mo_certificate_9 rfl (lv_at hl 0 rfl) ?_
      refine lv_aload_n hx hb d_Mo_certificate_10 rfl (lv_at hl 2 rfl) ?_
      refine gf_Mo_rows F hK hP d_Mo_certificate_11 ?_
      refine lv_aload_n hx hb d_Mo_certificate_14 rfl (lv_at hl 2 rfl) ?_
      refine gf_Mo_cuts F hK hP d_Mo_certificate_15 ?_
      refine lv_iadd hx hb d_Mo_certificate_18 ?_
      refine lv_icmp_ge (tgt := 45) hx hb d_Mo_certificate_19 (by decide) (fun c5 => ?_) (fun c5 => ?_)
      · have hkn : (r + u) = k := by
          rw [show (u3 σ 0 0 0 0) 2 0 0 + (u3 σ 0 0 0 0) 3 0 0 = nI (r + u) by rw [u3_c (by decide), u3_c (by decide)]; exact mo_cnt h_r h_u, nI_leI (by omega) (by omega)] at c5; omega
        subst hkn
        refine lv_iconst (v := 0) hx hb d_Mo_certificate_45 (by decide) ?_
        refine lv_istore_n (lv' := [(3, .int 0), (1, .long (me_1 (u3 σ 0 0 0 0) r (r + u))), (0, .ref (ad 0))]) hx hb d_Mo_certificate_46 rfl hl (by decide) rfl (fun ls hl => ?_)
        exact lq (n + 1) 0 (by omega) (by omega) H locs hP hD hS ls (lv_sub hl [0, 1, 2] rfl)
      · have hkn : k < (r + u) := by
          rw [show (u3 σ 0 0 0 0) 2 0 0 + (u3 σ 0 0 0 0) 3 0 0 = nI (r + u) by rw [u3_c (by decide), u3_c (by decide)]; exact mo_cnt h_r h_u, nI_leI (by omega) (by omega)] at c5; omega
        refine lv_lload_n hx hb d_Mo_certificate_22 rfl (lv_at hl 1 rfl) ?_
        refine lv_aload_n hx hb d_Mo_certificate_23 rfl (lv_at hl 2 rfl) ?_
        refine gf_Mo_multiplier F hK hP d_Mo_certificate_24 ?_
        refine lv_iload_n hx hb d_Mo_certificate_27 rfl (lv_at hl 0 rfl) ?_
        refine im_17 (j := k) F hK hP rfl (by omega) d_Mo_certificate_28 ?_
        refine lv_i2l hx hb d_Mo_certificate_29 rfl ?_
        refine lv_aload_n hx hb d_Mo_certificate_30 rfl (lv_at hl 2 rfl) ?_
        refine lv_iload_n hx hb d_Mo_certificate_31 rfl (lv_at hl 0 rfl) ?_
        refine x_Mo_rightOf (r := r) (u := u) (by rw [u3_c (by decide)]; exact h_r) (by rw [u3_c (by decide)]; exact h_u) hr4 hu4 (mo_ok_of (u3_c (by decide)) (u3_c (by decide)) hok) (k := k) rfl (by omega) (by omega) F (tt4 51 rfl rfl) ⟨Nat.le_of_ble_eq_true rfl, Nat.le_of_ble_eq_true rfl⟩ hK hP hl.1 (Nat.le_of_ble_eq_true rfl) ⟨Nat.zero_le _, Nat.zero_le _⟩ d_Mo_certificate_32 ?_
        refine lv_i2l hx hb d_Mo_certificate_35 rfl ?_
        refine lv_lmul hx hb d_Mo_certificate_36 ?_
        refine lv_ladd hx hb d_Mo_certificate_37 ?_
        refine lv_lstore_n (lv' := [(1, .long ((me_1 (u3 σ 0 0 0 0) r k) + ((Int32.toInt64 ((u3 σ 0 0 0 0) 17 0 k)) * (Int32.toInt64 (mo_r (u3 σ 0 0 0 0) r k))))), (3, .int (nI k)), (0, .ref (ad 0))]) hx hb d_Mo_certificate_38 rfl hl (by decide) rfl (fun ls hl => ?_)
        refine lv_iinc (v := nI (k + 1)) (lv' := [(3, .int (nI (k + 1))), (1, .long ((me_1 (u3 σ 0 0 0 0) r k) + ((Int32.toInt64 ((u3 σ 0 0 0 0) 17 0 k)) * (Int32.toInt64 (mo_r (u3 σ 0 0 0 0) r k))))), (0, .ref (ad 0))]) hx hb d_Mo_certificate_39 hl (k := 1) rfl (nI_inc _) (by decide) rfl (fun ls hl => ?_)
        refine lv_goto (tgt := 9) hx hb d_Mo_certificate_42 (by decide) ?_
        exact ih (k + 1) (by omega) (by omega) H locs hP hD hS ls (lv_sub hl [0, 1, 2] rfl)
  refine lv_aload_n hx hb d_Mo_certificate_0 rfl (lv_at hl 0 rfl) ?_
  refine lv_iconst (v := 0) hx hb d_Mo_certificate_1 (by decide) ?_
  refine pf_Mo_thrown F hK hP hD hS d_Mo_certificate_2 (fun H locs hP hD hS => ?_)
  refine lv_lconst (v := 0) hx hb d_Mo_certificate_5 (by decide) ?_
  refine lv_lstore_n (lv' := [(1, .long 0), (0, .ref (ad 0))]) hx hb d_Mo_certificate_6 rfl hl (by decide) rfl (fun ls hl => ?_)
  refine lv_iconst (v := 0) hx hb d_Mo_certificate_7 (by decide) ?_
  refine lv_istore_n (lv' := [(3, .int 0), (1, .long 0), (0, .ref (ad 0))]) hx hb d_Mo_certificate_8 rfl hl (by decide) rfl (fun ls hl => ?_)
  exact lp ((r + u) + 1) 0 (by omega) (by omega) _ _ hP hD hS ls (lv_sub hl [0, 1, 2] rfl)
theorem x_Mo_certificate {σ : oS} {r : Nat} {u : Nat} (h_r : σ 2 0 0 = nI r) (h_u : σ 3 0 0 = nI u) (hr4 : r ≤ 4) (hu4 : u ≤ 4) {n : Nat} (hn : σ 1 0 0 = nI n) (hn9 : n ≤ 5) (hok : mo_ok σ u) (F : CallFix p m c cc nL s args (cw :: tt) own) (hG : Cond.methodLink own index y_Mo_certificate ∈ tt) (hR : 1 + 1 ≤ R.frames ∧ 8 + (7 + 11) + 23 ≤ R.locals) (hK : va_K D vwCl (mt cI cZ) s) (hP : va_P D vwCl (mw cI cZ ad σ) H) (hD : va_D A (mw cI cZ ad σ)) (hS : va_S A H0 H locs) (hA : ∀ q, H0.size ≤ q → A q) (hsz : ls.size = nL) (hW : (rest.map fun v => v.category).sum ≤ 8) (hcs : cells ≤ R.cells ∧ slots ≤ R.slots) (hdg : decode cc pc = .ok (.invokevirtual index, 3)) (kk : ∀ (H1 : Heap) (locs1 : List Loc), va_P D vwCl (mw cI cZ ad (u3 σ 0 0 0 0)) H1 → va_D A (mw cI cZ ad (u3 σ 0 0 0 0)) → va_S A H0 H1 locs1 → W p l e R s m args below meth c H1 locs1 cells slots Q (F0 m (pc + 3) ls (.long (me_q (me_2 (u3 σ 0 0 0 0) r u n)) :: rest))) : W p l e R s m args below meth c H locs cells slots Q (F0 m pc ls (.ref (ad 0) :: rest)) :=
  ok_VM (As := []) F (c_Mo_certificate σ h_r h_u hr4 hu4 hn hn9 hok) 0 (tt_V hG i_Mo_certificate l_Mo_certificate in9_Mo k_Mo_certificate) rfl ⟨rfl, rfl⟩ (by decide +kernel) hR hK hP hD hS hA (0) 6 rfl rfl mw_0 rfl hsz rfl hW hcs hdg kk
set_option maxHeartbeats 4000000 in
set_option maxRecDepth 100000 in
theorem c_Mo_check (σ : oS) {r : Nat} {u : Nat} (h_r : σ 2 0 0 = nI r) (h_u : σ 3 0 0 = nI u) (hr4 : r ≤ 4) (hu4 : u ≤ 4) {n : Nat} (hn : σ 1 0 0 = nI n) (hn9 : n ≤ 5) (hok : mo_ok σ u) {x : Int32} : ok_MM l y_Mo_check (Cond.code y_Mo_check b_Mo_check 3 (some .int) :: tt) { frames := 2, cells := 0, slots := 0, locals := 49 } D vwCl (mt cI cZ) (mw cI cZ ad σ) (mw cI cZ ad ((md_H (u3 σ 0 0 0 0) r u n x).1)) [.ref (ad 0), .int x] (some (.int (md_H (u3 σ 0 0 0 0) r u n x).2)) := by
  refine ok_startM (cc := b_Mo_check) (own := RMo) (maxL := 3) (ret := (some .int)) (by decide +kernel) rfl rfl (Nat.le_of_ble_eq_true rfl) ?_
  intro p e s m below meth c A F hr hlk hA hP hK hD hS ls hl
  have hl : lv_has ls 3 [(0, .ref (ad 0)), (1, .int x)] := hl
  have hx := F.1
  have hb := F.2.1
  have lq : ∀ (f k : Nat), k ≤ (r + u) → (r + u) - k < f → md_H (u3 σ 0 0 0 0) r u n x = (md_t (u3 σ 0 0 0 0) x n, ob_o 0 101 (ob_first (fun k => mo_h (md_t (u3 σ 0 0 0 0) x n) r k (mo_s2 (md_t (u3 σ 0 0 0 0) x n) r k n (mo_s1 (md_t (u3 σ 0 0 0 0) x n) r k 14 n) (n - n)) == 0) (r + u - k) k)) → ∀ (H : Heap) (locs : List Loc), va_P D vwCl (mw cI cZ ad (md_t (u3 σ 0 0 0 0) x n)) H → va_D A (mw cI cZ ad (md_t (u3 σ 0 0 0 0) x n)) → va_S A s.heap H locs → ∀ ls : Array Slot, lv_has ls 3 [(2, .int (nI k)), (0, .ref (ad 0)), (1, .int x)] → W p l e { frames := 2, cells := 0, slots := 0, locals := 49 } s m ([.ref (ad 0), .int x] : List Value).toArray below meth c H locs 0 0 (MQ below (ok_qA D vwCl A (mw cI cZ ad ((md_H (u3 σ 0 0 0 0) r u n x).1)) (some (.int (md_H (u3 σ 0 0 0 0) r u n x).2))) ([.ref (ad 0), .int x] : List Value).toArray s 0 0 A) (F0 m 57 ls []) := by
    intro f
    induction f with
    | zero => intro k h1 h2; omega
    | succ f ih =>
      intro k h1 h2 hin H locs hP hD hS ls hl
      refine lv_iload_n hx hb d_Mo_check_57 rfl (lv_at hl 0 rfl) ?_
      refine lv_aload_n hx hb d_Mo_check_58 rfl (lv_at hl 1 rfl) ?_
      refine gf_Mo_rows F hK hP d_Mo_check_59 ?_
      refine lv_aload_n hx hb d_Mo_check_62 rfl (lv_at hl 1 rfl) ?_
      refine gf_Mo_cuts F hK hP d_Mo_check_63 ?_
      refine lv_iadd hx hb d_Mo_check_66 ?_
      refine lv_icmp_ge (tgt := 97) hx hb d_Mo_check_67 (by decide) (fun c1 => ?_) (fun c1 => ?_)
      · have hkn : (r + u) = k := by
          rw [show (md_t (u3 σ 0 0 0 0) x n) 2 0 0 + (md_t (u3 σ 0 0 0 0) x n) 3 0 0 = nI (r + u) by rw [md_t_c (by decide), md_t_c (by decide), u3_c (by decide), u3_c (by decide)]; exact mo_cnt h_r h_u, nI_leI (by omega) (by omega)] at c1; omega
        subst hkn
        refine lv_iconst (v := 0) hx hb d_Mo_check_97 (by decide) ?_
        exact ok_iretM F hr hlk (by rw [hin]; exact hP) (by rw [hin]; exact hD) hS (by rw [hin, Nat.sub_self (r + u)]; rfl) d_Mo_check_98
      · have hkn : k < (r + u) := by
          rw [show (md_t (u3 σ 0 0 0 0) x n) 2 0 0 + (md_t (u3 σ 0 0 0 0) x n) 3 0 0 = nI (r + u) by rw [md_t_c (by decide), md_t_c (by decide), u3_c (by decide), u3_c (by decide)]; exact mo_cnt h_r h_u, nI_leI (by omega) (by omega)] at c1; omega
        refine lv_aload_n hx hb d_Mo_check_70 rfl (lv_at hl 1 rfl) ?_
        refine lv_iload_n hx hb d_Mo_check_71 rfl (lv_at hl 0 rfl) ?_
        refine lv_aload_n hx hb d_Mo_check_72 rfl (lv_at hl 1 rfl) ?_
        refine gf_Mo_tried F hK hP d_Mo_check_73 ?_
        refine lv_aload_n hx hb d_Mo_check_76 rfl (lv_at hl 1 rfl) ?_
        refine gf_Mo_columns F hK hP d_Mo_check_77 ?_
        refine x_Mo_canHold (r := r) (u := u) (by rw [md_t_c (by decide), u3_c (by decide)]; exact h_r) (by rw [md_t_c (by decide), u3_c (by decide)]; exact h_u) hr4 hu4 (n := n) (by rw [md_t_c (by decide), u3_c (by decide)]; exact hn) hn9 (mo_ok_of (by rw [md_t_c (by decide), u3_c (by decide)]) (by rw [md_t_c (by decide), u3_c (by decide)]) hok) (k := k) rfl (by omega) (by omega) (w := 14) (by decide) (m0 := n) (by rw [md_t_c (by decide), u3_c (by decide)]; exact hn) (by omega) (by omega) F (tt4 39 rfl rfl) ⟨Nat.le_of_ble_eq_true rfl, Nat.le_of_ble_eq_true rfl⟩ hK hP hl.1 (Nat.le_of_ble_eq_true rfl) ⟨Nat.zero_le _, Nat.zero_le _⟩ d_Mo_check_80 ?_
        refine lv_if_ne (tgt := 91) hx hb d_Mo_check_83 (by decide) (fun c2 => ?_) (fun c2 => ?_)
        · refine lv_iinc (v := nI (k + 1)) (lv' := [(2, .int (nI (k + 1))), (0, .ref (ad 0)), (1, .int x)]) hx hb d_Mo_check_91 hl (k := 0) rfl (nI_inc _) (by decide) rfl (fun ls hl => ?_)
          refine lv_goto (tgt := 57) hx hb d_Mo_check_94 (by decide) ?_
          exact ih (k + 1) (by omega) (by omega) (by rw [hin, show r + u - k = (r + u - (k + 1)) + 1 by omega, ob_first, if_neg (by simpa using c2)]) H locs hP hD hS ls (lv_sub hl [0, 1, 2] rfl)
        · refine lv_bipush (v := 101) hx hb d_Mo_check_86 (by decide) ?_
          refine lv_iload_n hx hb d_Mo_check_88 rfl (lv_at hl 0 rfl) ?_
          refine lv_iadd hx hb d_Mo_check_89 ?_
          exact ok_iretM F hr hlk (by rw [hin]; exact hP) (by rw [hin]; exact hD) hS (by rw [hin, show r + u - k = (r + u - (k + 1)) + 1 by omega, ob_first, if_pos (by simpa using c2), ob_o]) d_Mo_check_90
  have lp : ∀ (f k : Nat), k ≤ n → n - k < f → ob_first (fun c => decide (¬ md_b x c ≤ (u3 σ 0 0 0 0) 11 0 c)) n 0 = ob_first (fun c => decide (¬ md_b x c ≤ (u3 σ 0 0 0 0) 11 0 c)) (n - k) k → ∀ (H : Heap) (locs : List Loc), va_P D vwCl (mw cI cZ ad (md_t (u3 σ 0 0 0 0) x k)) H → va_D A (mw cI cZ ad (md_t (u3 σ 0 0 0 0) x k)) → va_S A s.heap H locs → ∀ ls : Array Slot, lv_has ls 3 [(2, .int (nI k)), (0, .ref (ad 0)), (1, .int x)] → W p l e { frames := 2, cells := 0, slots := 0, locals := 49 } s m ([.ref (ad 0), .int x] : List Value).toArray below meth c H locs 0 0 (MQ below (ok_qA D vwCl A (mw cI cZ ad ((md_H (u3 σ 0 0 0 0) r u n x).1)) (some (.int (md_H (u3 σ 0 0 0 0) r u n x).2))) ([.ref (ad 0), .int x] : List Value).toArray s 0 0 A) (F0 m 7 ls []) := by
    intro f
    induction f with
    | zero => intro k h1 h2; omega
    | succ f ih =>
      intro k h1 h2 hin H locs hP hD hS ls hl
      refine lv_iload_n hx hb d_Mo_check_7 rfl (lv_at hl 0 rfl) ?_
      refine lv_aload_n hx hb d_Mo_check_8 rfl (lv_at hl 1 rfl) ?_
      refine gf_Mo_columns F hK hP d_Mo_check_9 ?_
      refine lv_icmp_ge (tgt := 55) hx hb d_Mo_check_12 (by decide) (fun c3 => ?_) (fun c3 => ?_)
      · have hkn : n = k := by
          rw [md_t_c (by decide), u3_c (by decide), hn, nI_leI (by omega) (by omega)] at c3; omega
        subst hkn
        refine lv_iconst (v := 0) hx hb d_Mo_check_55 (by decide) ?_
        refine lv_istore_n (lv' := [(2, .int 0), (0, .ref (ad 0)), (1, .int x)]) hx hb d_Mo_check_56 rfl hl (by decide) rfl (fun ls hl => ?_)
        exact lq (r + u + 1) 0 (by omega) (by omega) (by rw [md_H, md_1, hin, show ob_first (fun c => decide (¬ md_b x c ≤ (u3 σ 0 0 0 0) 11 0 c)) (n - n) n = none by rw [Nat.sub_self]; rfl]; rfl) H locs hP hD hS ls (lv_sub hl [0, 1, 2] rfl)
      · have hkn : k < n := by
          rw [md_t_c (by decide), u3_c (by decide), hn, nI_leI (by omega) (by omega)] at c3; omega
        refine lv_aload_n hx hb d_Mo_check_15 rfl (lv_at hl 1 rfl) ?_
        refine gf_Mo_tried F hK hP d_Mo_check_16 ?_
        refine lv_iload_n hx hb d_Mo_check_19 rfl (lv_at hl 0 rfl) ?_
        refine lv_iload_n hx hb d_Mo_check_20 rfl (lv_at hl 2 rfl) ?_
        refine lv_bipush (v := 6) hx hb d_Mo_check_21 (by decide) ?_
        refine lv_iload_n hx hb d_Mo_check_23 rfl (lv_at hl 0 rfl) ?_
        refine lv_imul hx hb d_Mo_check_24 ?_
        refine lv_ishr hx hb d_Mo_check_25 ?_
        refine lv_bipush (v := 63) hx hb d_Mo_check_26 (by decide) ?_
        refine lv_iand hx hb d_Mo_check_28 ?_
        refine sm_23 (j := k) F hK hP hD hS rfl (by omega) d_Mo_check_29 (fun H locs hP hD hS => ?_)
        have ew : u3 (md_t (u3 σ 0 0 0 0) x k) 23 0 k ((x >>> ((6 * (nI k)) &&& 31)) &&& 63) = md_t (u3 σ 0 0 0 0) x (k + 1) := by rfl
        rw [ew] at hP hD
        clear ew
        refine lv_aload_n hx hb d_Mo_check_30 rfl (lv_at hl 1 rfl) ?_
        refine gf_Mo_tried F hK hP d_Mo_check_31 ?_
        refine lv_iload_n hx hb d_Mo_check_34 rfl (lv_at hl 0 rfl) ?_
        refine im_23 (j := k) F hK hP rfl (by omega) d_Mo_check_35 ?_
        refine lv_aload_n hx hb d_Mo_check_36 rfl (lv_at hl 1 rfl) ?_
        refine gf_Mo_top F hK hP d_Mo_check_37 ?_
        refine lv_iload_n hx hb d_Mo_check_40 rfl (lv_at hl 0 rfl) ?_
        refine im_11 (j := k) F hK hP rfl (by omega) d_Mo_check_41 ?_
        refine lv_icmp_le (tgt := 49) hx hb d_Mo_check_42 (by decide) (fun c4 => ?_) (fun c4 => ?_)
        · refine lv_iinc (v := nI (k + 1)) (lv' := [(2, .int (nI (k + 1))), (0, .ref (ad 0)), (1, .int x)]) hx hb d_Mo_check_49 hl (k := 0) rfl (nI_inc _) (by decide) rfl (fun ls hl => ?_)
          refine lv_goto (tgt := 7) hx hb d_Mo_check_52 (by decide) ?_
          exact ih (k + 1) (by omega) (by omega) (by rw [hin, show n - k = (n - (k + 1)) + 1 by omega, ob_first, if_neg (by rw [md_t, u3_s, u3_c (by decide), md_t_c (by decide)] at c4; simpa using c4)]) H locs hP hD hS ls (lv_sub hl [0, 1, 2] rfl)
        · have hfin : md_H (u3 σ 0 0 0 0) r u n x = (md_t (u3 σ 0 0 0 0) x (k + 1), 1 + nI k) := by
            rw [md_H, md_1, hin, show n - k = (n - (k + 1)) + 1 by omega, ob_first, if_pos (by rw [md_t, u3_s, u3_c (by decide), md_t_c (by decide)] at c4; simpa using c4)]
          refine lv_iconst (v := 1) hx hb d_Mo_check_45 (by decide) ?_
          refine lv_iload_n hx hb d_Mo_check_46 rfl (lv_at hl 0 rfl) ?_
          refine lv_iadd hx hb d_Mo_check_47 ?_
          exact ok_iretM F hr hlk (by rw [hfin]; exact hP) (by rw [hfin]; exact hD) hS (by rw [hfin]) d_Mo_check_48
  refine lv_aload_n hx hb d_Mo_check_0 rfl (lv_at hl 0 rfl) ?_
  refine lv_iconst (v := 0) hx hb d_Mo_check_1 (by decide) ?_
  refine pf_Mo_thrown F hK hP hD hS d_Mo_check_2 (fun H locs hP hD hS => ?_)
  refine lv_iconst (v := 0) hx hb d_Mo_check_5 (by decide) ?_
  refine lv_istore_n (lv' := [(2, .int 0), (0, .ref (ad 0)), (1, .int x)]) hx hb d_Mo_check_6 rfl hl (by decide) rfl (fun ls hl => ?_)
  exact lp (n + 1) 0 (by omega) (by omega) (rfl) _ _ hP hD hS ls (lv_sub hl [0, 1, 2] rfl)
theorem x_Mo_check {σ : oS} {r : Nat} {u : Nat} (h_r : σ 2 0 0 = nI r) (h_u : σ 3 0 0 = nI u) (hr4 : r ≤ 4) (hu4 : u ≤ 4) {n : Nat} (hn : σ 1 0 0 = nI n) (hn9 : n ≤ 5) (hok : mo_ok σ u) {x : Int32} (F : CallFix p m c cc nL s args (cw :: tt) own) (hG : Cond.methodLink own index y_Mo_check ∈ tt) (hR : 2 + 1 ≤ R.frames ∧ 8 + (3 + 11) + 49 ≤ R.locals) (hK : va_K D vwCl (mt cI cZ) s) (hP : va_P D vwCl (mw cI cZ ad σ) H) (hD : va_D A (mw cI cZ ad σ)) (hS : va_S A H0 H locs) (hA : ∀ q, H0.size ≤ q → A q) (hsz : ls.size = nL) (hW : (rest.map fun v => v.category).sum ≤ 8) (hcs : cells ≤ R.cells ∧ slots ≤ R.slots) (hdg : decode cc pc = .ok (.invokevirtual index, 3)) (kk : ∀ (H1 : Heap) (locs1 : List Loc), va_P D vwCl (mw cI cZ ad ((md_H (u3 σ 0 0 0 0) r u n x).1)) H1 → va_D A (mw cI cZ ad ((md_H (u3 σ 0 0 0 0) r u n x).1)) → va_S A H0 H1 locs1 → W p l e R s m args below meth c H1 locs1 cells slots Q (F0 m (pc + 3) ls (.int (md_H (u3 σ 0 0 0 0) r u n x).2 :: rest))) : W p l e R s m args below meth c H locs cells slots Q (F0 m pc ls (.int x :: .ref (ad 0) :: rest)) :=
  ok_VM (As := [.int x]) F (c_Mo_check σ h_r h_u hr4 hu4 hn hn9 hok) 1 (tt_V hG i_Mo_check l_Mo_check in9_Mo k_Mo_check) rfl ⟨rfl, rfl⟩ (by decide +kernel) hR hK hP hD hS hA (0) 6 rfl rfl mw_0 rfl hsz rfl hW hcs hdg kk
end
