-- steps
theorem se_1_c {σ : oS} {k c : Nat} (h1 : c ≠ 16) (h2 : c ≠ 13) : se_1 σ k c = σ c := by
  unfold se_1
  rw [u3_c h2, u3_c h1]
theorem ls_x_c {r j f k c : Nat} {y : Int32} {τ : oS} (h : c ≠ 7) : (ls_x r j y f k τ).1 c = τ c := by
  induction f generalizing k τ with
  | zero => rfl
  | succ f ih =>
    rw [ls_x]
    split
    · exact ls_t_c h
    · rw [ih, ls_t_c h]
theorem se_k_c {σ : oS} {n c : Nat} {x : Int32} (h1 : c ≠ 17) (h2 : c ≠ 18) (h3 : c ≠ 12) : se_k σ n x c = σ c := by
  unfold se_k
  funext i9
  rw [uA_n (fun q => h3 q.1), u3_c h2, u3_c h1]
theorem se_w_1 {σ : oS} {k : Nat} {x : Int32} : se_w (se_1 σ k) (x + se_1 σ k 14 0 (k + 1)) = se_w σ (x + σ 14 0 (k + 1)) := by
  unfold se_w
  rw [se_1_c (c := 17) (by decide) (by decide), se_1_c (c := 18) (by decide) (by decide), se_1_c (c := 14) (by decide) (by decide)]
def se_L (τ : oS) : Nat := (τ 15 0 0 + 1).toNatClampNeg
def se_g (n r u : Nat) : Nat → oS → oS
  | 0, τ => τ
  | f + 1, τ => if se_L τ = 0 then τ else se_g n r u f (se_s τ n r u (se_L τ - 1))
def se_G (σ : oS) (n r u f : Nat) : oS := se_g n r u f (if n = 0 then se_0 σ r u else σ)
def se_r (τ : oS) : Int32 := if τ 15 0 0 < 0 then (if τ 17 0 0 = 0 then 1 else 0) else 2
theorem se_L_of {τ : oS} {q : Nat} (h : τ 15 0 0 = nI q - 1) (hq : q ≤ 5) : se_L τ = q := by
  unfold se_L
  rw [h, show nI q - 1 + 1 = nI q by simp [Int32.sub_eq_add_neg, Int32.add_assoc]]
  exact nI_clamp (by omega)
theorem se_n_c {q c : Nat} {τ : oS} (h1 : c ≠ 15) (h2 : c ≠ 11) : se_n τ q c = τ c := by
  induction q generalizing τ with
  | zero => rfl
  | succ q ih =>
    rw [se_n]
    split
    · rw [ih, u3_c h1]
    · rw [u3_c h2]
theorem se_n_at {q : Nat} {τ : oS} (h : τ 15 0 0 = nI q - 1) : ∃ q' : Nat, q' ≤ q ∧ se_n τ q 15 0 0 = nI q' - 1 := by
  induction q generalizing τ with
  | zero => exact ⟨0, Nat.le_refl _, h⟩
  | succ q ih =>
    rw [se_n]
    split
    · obtain ⟨q', h1, h2⟩ := ih (τ := u3 τ 15 0 0 (nI q - 1)) u3_s
      exact ⟨q', by omega, h2⟩
    · exact ⟨q + 1, Nat.le_refl _, by rw [u3_c (by decide)]; exact h⟩
/-- what the search's loop keeps -/
def se_I (τ : oS) (n r u q : Nat) : Prop := τ 2 0 0 = nI n ∧ τ 9 0 0 = nI r ∧ τ 10 0 0 = nI u ∧ (τ 17 0 0 = 0 ∨ τ 17 0 0 = 1) ∧ τ 15 0 0 = nI q - 1
theorem se_s_I {τ : oS} {n r u k : Nat} (hk : k < n) (h : se_I τ n r u (k + 1)) : ∃ q : Nat, q ≤ n ∧ se_I (se_s τ n r u k) n r u q := by
  obtain ⟨h1, h2, h3, h4, h5⟩ := h
  have e1 : ∀ c, c ≠ 16 → c ≠ 13 → se_1 τ k c = τ c := fun c a b => se_1_c a b
  have e2 : ∀ c, c ≠ 16 → c ≠ 13 → c ≠ 7 → (ls_x r k (τ 11 0 k) (r + u) 0 (se_1 τ k)).1 c = τ c := fun c a b d => by rw [ls_x_c d, e1 c a b]
  unfold se_s
  split
  · obtain ⟨q, a, b⟩ := se_n_at (q := k + 1) (τ := se_1 τ k) (by rw [e1 15 (by decide) (by decide)]; exact h5)
    exact ⟨q, by omega, by rw [se_n_c (by decide) (by decide), e1 2 (by decide) (by decide)]; exact h1, by rw [se_n_c (by decide) (by decide), e1 9 (by decide) (by decide)]; exact h2, by rw [se_n_c (by decide) (by decide), e1 10 (by decide) (by decide)]; exact h3, by rw [se_n_c (by decide) (by decide), e1 17 (by decide) (by decide)]; exact h4, b⟩
  · split
    · obtain ⟨q, a, b⟩ := se_n_at (q := k + 1) (τ := (ls_x r k (τ 11 0 k) (r + u) 0 (se_1 τ k)).1) (by rw [e2 15 (by decide) (by decide) (by decide)]; exact h5)
      exact ⟨q, by omega, by rw [se_n_c (by decide) (by decide), e2 2 (by decide) (by decide) (by decide)]; exact h1, by rw [se_n_c (by decide) (by decide), e2 9 (by decide) (by decide) (by decide)]; exact h2, by rw [se_n_c (by decide) (by decide), e2 10 (by decide) (by decide) (by decide)]; exact h3, by rw [se_n_c (by decide) (by decide), e2 17 (by decide) (by decide) (by decide)]; exact h4, b⟩
    · split
      · exact ⟨k + 2, by omega, by rw [u3_c (by decide), u3_c (by decide), e2 2 (by decide) (by decide) (by decide)]; exact h1, by rw [u3_c (by decide), u3_c (by decide), e2 9 (by decide) (by decide) (by decide)]; exact h2, by rw [u3_c (by decide), u3_c (by decide), e2 10 (by decide) (by decide) (by decide)]; exact h3, by rw [u3_c (by decide), u3_c (by decide), e2 17 (by decide) (by decide) (by decide)]; exact h4, by rw [u3_c (by decide), u3_s]; exact (nI_pred (k + 1)).symm⟩
      · have e3 : ∀ c, c ≠ 16 → c ≠ 13 → c ≠ 7 → c ≠ 17 → c ≠ 18 → c ≠ 12 → se_k (ls_x r k (τ 11 0 k) (r + u) 0 (se_1 τ k)).1 n (τ 13 0 k + τ 0 0 k * τ 11 0 k) c = τ c := fun c a b d a1 a2 a3 => by rw [se_k_c a1 a2 a3, e2 c a b d]
        obtain ⟨q, a, b⟩ := se_n_at (q := k + 1) (τ := se_k (ls_x r k (τ 11 0 k) (r + u) 0 (se_1 τ k)).1 n (τ 13 0 k + τ 0 0 k * τ 11 0 k)) (by rw [e3 15 (by decide) (by decide) (by decide) (by decide) (by decide) (by decide)]; exact h5)
        exact ⟨q, by omega, by rw [se_n_c (by decide) (by decide), e3 2 (by decide) (by decide) (by decide) (by decide) (by decide) (by decide)]; exact h1, by rw [se_n_c (by decide) (by decide), e3 9 (by decide) (by decide) (by decide) (by decide) (by decide) (by decide)]; exact h2, by rw [se_n_c (by decide) (by decide), e3 10 (by decide) (by decide) (by decide) (by decide) (by decide) (by decide)]; exact h3, Or.inr (by rw [se_n_c (by decide) (by decide)]; simp [se_k, uA, u3_at, u3, upd]), b⟩
section
variable {l : Launch} {D : va_G} {cI cL : ClassId} {ad : Nat → Nat}
variable {p : Program} {e : Env} {R : Room} {s : State} {m : MethodId} {args : Array Value} {below : List Frame} {meth : Method} {c : Code} {H : Heap} {locs : List Loc} {cells slots : Nat} {Q : State → Prop} {cc : ByteArray} {pc nL index : Nat} {ls : Array Slot} {rest : List Value} {A : Nat → Prop} {H0 : Heap} {cw : Cond} {own : String}
set_option maxHeartbeats 4000000 in
set_option maxRecDepth 100000 in
theorem c_Se_step (σ : oS) {r : Nat} {u : Nat} (h_r : σ 9 0 0 = nI r) (h_u : σ 10 0 0 = nI u) (hr4 : r ≤ 4) (hu4 : u ≤ 4) {n : Nat} (hn : σ 2 0 0 = nI n) (hn9 : n ≤ 5) {k : Nat} (hk : σ 15 0 0 = nI k) (hkn : k < n) (hfo : σ 17 0 0 = 0 ∨ σ 17 0 0 = 1) : ok_MM l y_Se_step (Cond.code y_Se_step b_Se_step 3 none :: tt) { frames := 3, cells := 0, slots := 0, locals := 67 } D vwCl (ot cI cL) (ow cI cL ad σ) (ow cI cL ad (se_s σ n r u k)) [.ref (ad 7)] none := by
  refine ok_startM (cc := b_Se_step) (own := RSe) (maxL := 3) (ret := none) (by decide +kernel) rfl rfl (Nat.le_of_ble_eq_true rfl) ?_
  intro p e s m below meth c A F hr hlk hA hP hK hD hS ls hl
  have hl : lv_has ls 3 [(0, .ref (ad 7))] := hl
  have hx := F.1
  have hb := F.2.1
  refine lv_aload_n hx hb d_Se_step_0 rfl (lv_at hl 0 rfl) ?_
  refine gf_Se_numbers F hK hP d_Se_step_1 ?_
  refine lv_aload_n hx hb d_Se_step_4 rfl (lv_at hl 0 rfl) ?_
  refine gf_Se_at F hK hP d_Se_step_5 ?_
  refine ia_11 (j := k) F hK hP hk (by omega) d_Se_step_8 ?_
  refine lv_istore_n (lv' := [(1, .int (σ 11 0 k)), (0, .ref (ad 7))]) hx hb d_Se_step_9 rfl hl (by decide) rfl (fun ls hl => ?_)
  refine lv_aload_n hx hb d_Se_step_10 rfl (lv_at hl 1 rfl) ?_
  refine gf_Se_worths F hK hP d_Se_step_11 ?_
  refine lv_aload_n hx hb d_Se_step_14 rfl (lv_at hl 1 rfl) ?_
  refine gf_Se_at F hK hP d_Se_step_15 ?_
  refine ia_13 (j := k) F hK hP hk (by omega) d_Se_step_18 ?_
  refine lv_aload_n hx hb d_Se_step_19 rfl (lv_at hl 1 rfl) ?_
  refine gf_Se_columns F hK hP d_Se_step_20 ?_
  refine lv_aload_n hx hb d_Se_step_23 rfl (lv_at hl 1 rfl) ?_
  refine gf_Se_at F hK hP d_Se_step_24 ?_
  refine x_Co_worth (j := k) hk (by omega) F (tt2 101 rfl rfl) ⟨Nat.le_of_ble_eq_true rfl, Nat.le_of_ble_eq_true rfl⟩ hK hP hl.1 (Nat.le_of_ble_eq_true rfl) ⟨Nat.zero_le _, Nat.zero_le _⟩ d_Se_step_27 ?_
  refine lv_iload_n hx hb d_Se_step_30 rfl (lv_at hl 0 rfl) ?_
  refine lv_imul hx hb d_Se_step_31 ?_
  refine lv_iadd hx hb d_Se_step_32 ?_
  refine lv_istore_n (lv' := [(2, .int ((σ 13 0 k) + ((σ 0 0 k) * (σ 11 0 k)))), (1, .int (σ 11 0 k)), (0, .ref (ad 7))]) hx hb d_Se_step_33 rfl hl (by decide) rfl (fun ls hl => ?_)
  refine lv_aload_n hx hb d_Se_step_34 rfl (lv_at hl 2 rfl) ?_
  refine lv_dup hx hb d_Se_step_35 rfl ?_
  refine gf_Se_steps F hK hP d_Se_step_36 ?_
  refine lv_iconst (v := 1) hx hb d_Se_step_39 (by decide) ?_
  refine lv_iadd hx hb d_Se_step_40 ?_
  refine pf_Se_steps F hK hP hD hS d_Se_step_41 (fun H locs hP hD hS => ?_)
  refine lv_aload_n hx hb d_Se_step_44 rfl (lv_at hl 2 rfl) ?_
  refine gf_Se_worths F hK hP d_Se_step_45 ?_
  refine lv_aload_n hx hb d_Se_step_48 rfl (lv_at hl 2 rfl) ?_
  refine gf_Se_at F hK hP d_Se_step_49 ?_
  refine lv_iconst (v := 1) hx hb d_Se_step_52 (by decide) ?_
  refine lv_iadd hx hb d_Se_step_53 ?_
  refine lv_iload_n hx hb d_Se_step_54 rfl (lv_at hl 0 rfl) ?_
  refine sa_13 (j := (k + 1)) F hK hP hD hS (by rw [u3_c (by decide), hk, nI_1]) (by omega) d_Se_step_55 (fun H locs hP hD hS => ?_)
  have ew : u3 (u3 σ 16 0 0 ((σ 16 0 0) + 1)) 13 0 (k + 1) ((σ 13 0 k) + ((σ 0 0 k) * (σ 11 0 k))) = se_1 σ k := by rfl
  rw [ew] at hP hD
  clear ew
  refine lv_aload_n hx hb d_Se_step_56 rfl (lv_at hl 2 rfl) ?_
  refine lv_iload_n hx hb d_Se_step_57 rfl (lv_at hl 0 rfl) ?_
  refine lv_aload_n hx hb d_Se_step_58 rfl (lv_at hl 2 rfl) ?_
  refine gf_Se_hopes F hK hP d_Se_step_59 ?_
  refine lv_aload_n hx hb d_Se_step_62 rfl (lv_at hl 2 rfl) ?_
  refine gf_Se_at F hK hP d_Se_step_63 ?_
  refine lv_iconst (v := 1) hx hb d_Se_step_66 (by decide) ?_
  refine lv_iadd hx hb d_Se_step_67 ?_
  refine ia_14 (j := (k + 1)) F hK hP (by rw [se_1_c (by decide) (by decide), hk, nI_1]) (by omega) d_Se_step_68 ?_
  refine lv_iadd hx hb d_Se_step_69 ?_
  refine x_Se_isWorthwhile F (tt3 9 rfl rfl) ⟨Nat.le_of_ble_eq_true rfl, Nat.le_of_ble_eq_true rfl⟩ hK hP hl.1 (Nat.le_of_ble_eq_true rfl) ⟨Nat.zero_le _, Nat.zero_le _⟩ d_Se_step_70 ?_
  refine lv_if_eq (tgt := 91) hx hb d_Se_step_73 (by decide) (fun c1 => ?_) (fun c1 => ?_)
  · rw [se_w_1] at c1
    refine lv_aload_n hx hb d_Se_step_91 rfl (lv_at hl 2 rfl) ?_
    refine x_Se_toNextNumber (q := (k + 1)) (by rw [se_1_c (by decide) (by decide), hk, nI_pred]) (by omega) F (tt3 21 rfl rfl) ⟨Nat.le_of_ble_eq_true rfl, Nat.le_of_ble_eq_true rfl⟩ hK hP hD hS hA hl.1 (Nat.le_of_ble_eq_true rfl) ⟨Nat.zero_le _, Nat.zero_le _⟩ d_Se_step_92 (fun H locs hP hD hS => ?_)
    refine lv_goto (tgt := 156) hx hb d_Se_step_95 (by decide) ?_
    have ew : se_n (se_1 σ k) (k + 1) = se_s σ n r u k := by rw [se_s, if_pos c1]
    rw [ew] at hP hD
    clear ew
    exact ok_vretM F hr hlk hP hD hS d_Se_step_156
  · rw [se_w_1] at c1
    refine lv_aload_n hx hb d_Se_step_76 rfl (lv_at hl 2 rfl) ?_
    refine gf_Se_lines F hK hP d_Se_step_77 ?_
    refine lv_aload_n hx hb d_Se_step_80 rfl (lv_at hl 2 rfl) ?_
    refine gf_Se_at F hK hP d_Se_step_81 ?_
    refine lv_iload_n hx hb d_Se_step_84 rfl (lv_at hl 1 rfl) ?_
    refine x_Ls_stillHold (r := r) (u := u) (by rw [se_1_c (by decide) (by decide)]; exact h_r) (by rw [se_1_c (by decide) (by decide)]; exact h_u) hr4 hu4 (j := k) (by rw [se_1_c (by decide) (by decide)]; exact hk) (by omega) F (tt3 13 rfl rfl) ⟨Nat.le_of_ble_eq_true rfl, Nat.le_of_ble_eq_true rfl⟩ hK hP hD hS hA hl.1 (Nat.le_of_ble_eq_true rfl) ⟨Nat.zero_le _, Nat.zero_le _⟩ d_Se_step_85 (fun H locs hP hD hS => ?_)
    refine lv_if_ne (tgt := 98) hx hb d_Se_step_88 (by decide) (fun c2 => ?_) (fun c2 => ?_)
    · refine lv_aload_n hx hb d_Se_step_98 rfl (lv_at hl 2 rfl) ?_
      refine gf_Se_at F hK hP d_Se_step_99 ?_
      refine lv_iconst (v := 1) hx hb d_Se_step_102 (by decide) ?_
      refine lv_iadd hx hb d_Se_step_103 ?_
      refine lv_aload_n hx hb d_Se_step_104 rfl (lv_at hl 2 rfl) ?_
      refine gf_Se_columns F hK hP d_Se_step_105 ?_
      refine x_Co_count F (tt2 100 rfl rfl) ⟨Nat.le_of_ble_eq_true rfl, Nat.le_of_ble_eq_true rfl⟩ hK hP hl.1 (Nat.le_of_ble_eq_true rfl) ⟨Nat.zero_le _, Nat.zero_le _⟩ d_Se_step_108 ?_
      refine lv_icmp_ge (tgt := 147) hx hb d_Se_step_111 (by decide) (fun c3 => ?_) (fun c3 => ?_)
      · rw [ls_x_c (by decide), ls_x_c (by decide), se_1_c (by decide) (by decide), se_1_c (by decide) (by decide), hn, hk, nI_1, nI_leI (by omega) (by omega)] at c3
        refine lv_aload_n hx hb d_Se_step_147 rfl (lv_at hl 2 rfl) ?_
        refine lv_iload_n hx hb d_Se_step_148 rfl (lv_at hl 0 rfl) ?_
        refine x_Se_keep (n := n) (by rw [ls_x_c (by decide), se_1_c (by decide) (by decide)]; exact hn) hn9 F (tt3 25 rfl rfl) ⟨Nat.le_of_ble_eq_true rfl, Nat.le_of_ble_eq_true rfl⟩ hK hP hD hS hA hl.1 (Nat.le_of_ble_eq_true rfl) ⟨Nat.zero_le _, Nat.zero_le _⟩ d_Se_step_149 (fun H locs hP hD hS => ?_)
        refine lv_aload_n hx hb d_Se_step_152 rfl (lv_at hl 2 rfl) ?_
        refine x_Se_toNextNumber (q := (k + 1)) (by rw [se_k_c (by decide) (by decide) (by decide), ls_x_c (by decide), se_1_c (by decide) (by decide), hk, nI_pred]) (by omega) F (tt3 21 rfl rfl) ⟨Nat.le_of_ble_eq_true rfl, Nat.le_of_ble_eq_true rfl⟩ hK hP hD hS hA hl.1 (Nat.le_of_ble_eq_true rfl) ⟨Nat.zero_le _, Nat.zero_le _⟩ d_Se_step_153 (fun H locs hP hD hS => ?_)
        have ew : se_n (se_k ((ls_x r k (σ 11 0 k) (r + u) 0 (se_1 σ k)).1) n ((σ 13 0 k) + ((σ 0 0 k) * (σ 11 0 k)))) (k + 1) = se_s σ n r u k := by rw [se_s, if_neg c1, if_neg c2, if_neg (by omega)]
        rw [ew] at hP hD
        clear ew
        exact ok_vretM F hr hlk hP hD hS d_Se_step_156
      · rw [ls_x_c (by decide), ls_x_c (by decide), se_1_c (by decide) (by decide), se_1_c (by decide) (by decide), hn, hk, nI_1, nI_leI (by omega) (by omega)] at c3
        refine lv_aload_n hx hb d_Se_step_114 rfl (lv_at hl 2 rfl) ?_
        refine lv_dup hx hb d_Se_step_115 rfl ?_
        refine gf_Se_at F hK hP d_Se_step_116 ?_
        refine lv_iconst (v := 1) hx hb d_Se_step_119 (by decide) ?_
        refine lv_iadd hx hb d_Se_step_120 ?_
        refine pf_Se_at F hK hP hD hS d_Se_step_121 (fun H locs hP hD hS => ?_)
        have ew : u3 ((ls_x r k (σ 11 0 k) (r + u) 0 (se_1 σ k)).1) 15 0 0 ((((ls_x r k (σ 11 0 k) (r + u) 0 (se_1 σ k)).1) 15 0 0) + 1) = u3 (ls_x r k (σ 11 0 k) (r + u) 0 (se_1 σ k)).1 15 0 0 (nI (k + 1)) := by rw [ls_x_c (by decide), se_1_c (by decide) (by decide), hk, nI_1]
        rw [ew] at hP hD
        clear ew
        refine lv_aload_n hx hb d_Se_step_124 rfl (lv_at hl 2 rfl) ?_
        refine gf_Se_numbers F hK hP d_Se_step_125 ?_
        refine lv_aload_n hx hb d_Se_step_128 rfl (lv_at hl 2 rfl) ?_
        refine gf_Se_at F hK hP d_Se_step_129 ?_
        refine lv_aload_n hx hb d_Se_step_132 rfl (lv_at hl 2 rfl) ?_
        refine gf_Se_columns F hK hP d_Se_step_133 ?_
        refine lv_aload_n hx hb d_Se_step_136 rfl (lv_at hl 2 rfl) ?_
        refine gf_Se_at F hK hP d_Se_step_137 ?_
        refine x_Co_top (j := (k + 1)) u3_s (by omega) F (tt2 102 rfl rfl) ⟨Nat.le_of_ble_eq_true rfl, Nat.le_of_ble_eq_true rfl⟩ hK hP hl.1 (Nat.le_of_ble_eq_true rfl) ⟨Nat.zero_le _, Nat.zero_le _⟩ d_Se_step_140 ?_
        refine sa_11 (j := (k + 1)) F hK hP hD hS u3_s (by omega) d_Se_step_143 (fun H locs hP hD hS => ?_)
        refine lv_goto (tgt := 156) hx hb d_Se_step_144 (by decide) ?_
        have ew : u3 (u3 (ls_x r k (σ 11 0 k) (r + u) 0 (se_1 σ k)).1 15 0 0 (nI (k + 1))) 11 0 (k + 1) ((u3 (ls_x r k (σ 11 0 k) (r + u) 0 (se_1 σ k)).1 15 0 0 (nI (k + 1))) 1 0 (k + 1)) = se_s σ n r u k := by rw [se_s, if_neg c1, if_neg c2, if_pos (by omega), u3_c (by decide), ls_x_c (by decide), se_1_c (by decide) (by decide)]
        rw [ew] at hP hD
        clear ew
        exact ok_vretM F hr hlk hP hD hS d_Se_step_156
    · refine lv_aload_n hx hb d_Se_step_91 rfl (lv_at hl 2 rfl) ?_
      refine x_Se_toNextNumber (q := (k + 1)) (by rw [ls_x_c (by decide), se_1_c (by decide) (by decide), hk, nI_pred]) (by omega) F (tt3 21 rfl rfl) ⟨Nat.le_of_ble_eq_true rfl, Nat.le_of_ble_eq_true rfl⟩ hK hP hD hS hA hl.1 (Nat.le_of_ble_eq_true rfl) ⟨Nat.zero_le _, Nat.zero_le _⟩ d_Se_step_92 (fun H locs hP hD hS => ?_)
      refine lv_goto (tgt := 156) hx hb d_Se_step_95 (by decide) ?_
      have ew : se_n ((ls_x r k (σ 11 0 k) (r + u) 0 (se_1 σ k)).1) (k + 1) = se_s σ n r u k := by rw [se_s, if_neg c1, if_pos c2]
      rw [ew] at hP hD
      clear ew
      exact ok_vretM F hr hlk hP hD hS d_Se_step_156
theorem x_Se_step {σ : oS} {r : Nat} {u : Nat} (h_r : σ 9 0 0 = nI r) (h_u : σ 10 0 0 = nI u) (hr4 : r ≤ 4) (hu4 : u ≤ 4) {n : Nat} (hn : σ 2 0 0 = nI n) (hn9 : n ≤ 5) {k : Nat} (hk : σ 15 0 0 = nI k) (hkn : k < n) (hfo : σ 17 0 0 = 0 ∨ σ 17 0 0 = 1) (F : CallFix p m c cc nL s args (cw :: tt) own) (hG : Cond.methodLink own index y_Se_step ∈ tt) (hR : 3 + 1 ≤ R.frames ∧ 8 + (3 + 11) + 67 ≤ R.locals) (hK : va_K D vwCl (ot cI cL) s) (hP : va_P D vwCl (ow cI cL ad σ) H) (hD : va_D A (ow cI cL ad σ)) (hS : va_S A H0 H locs) (hA : ∀ q, H0.size ≤ q → A q) (hsz : ls.size = nL) (hW : (rest.map fun v => v.category).sum ≤ 8) (hcs : cells ≤ R.cells ∧ slots ≤ R.slots) (hdg : decode cc pc = .ok (.invokevirtual index, 3)) (kk : ∀ (H1 : Heap) (locs1 : List Loc), va_P D vwCl (ow cI cL ad (se_s σ n r u k)) H1 → va_D A (ow cI cL ad (se_s σ n r u k)) → va_S A H0 H1 locs1 → W p l e R s m args below meth c H1 locs1 cells slots Q (F0 m (pc + 3) ls (rest))) : W p l e R s m args below meth c H locs cells slots Q (F0 m pc ls (.ref (ad 7) :: rest)) :=
  ok_VM (As := []) F (c_Se_step σ h_r h_u hr4 hu4 hn hn9 hk hkn hfo) 0 (tt_V hG i_Se_step l_Se_step in9_Se k_Se_step) rfl ⟨rfl, rfl⟩ (by decide +kernel) hR hK hP hD hS hA (7) 3 rfl rfl ow_7 rfl hsz rfl hW hcs hdg kk
set_option maxHeartbeats 4000000 in
set_option maxRecDepth 100000 in
theorem c_Se_goOn (σ : oS) {r : Nat} {u : Nat} (h_r : σ 9 0 0 = nI r) (h_u : σ 10 0 0 = nI u) (hr4 : r ≤ 4) (hu4 : u ≤ 4) {n : Nat} (hn : σ 2 0 0 = nI n) (hn9 : n ≤ 5) (hfo : σ 17 0 0 = 0 ∨ σ 17 0 0 = 1) {q : Nat} (hq : σ 15 0 0 = nI q - 1) (hqn : n ≠ 0 → q ≤ n) {x : Int32} {f : Nat} (hf : x = nI f) (hf9 : f < 100001) : ok_MM l y_Se_goOn (Cond.code y_Se_goOn b_Se_goOn 3 (some .int) :: tt) { frames := 4, cells := 0, slots := 0, locals := 89 } D vwCl (ot cI cL) (ow cI cL ad σ) (ow cI cL ad (se_G σ n r u f)) [.ref (ad 7), .int x] (some (.int (se_r (se_G σ n r u f)))) := by
  refine ok_startM (cc := b_Se_goOn) (own := RSe) (maxL := 3) (ret := (some .int)) (by decide +kernel) rfl rfl (Nat.le_of_ble_eq_true rfl) ?_
  intro p e s m below meth c A F hr hlk hA hP hK hD hS ls hl
  have hl : lv_has ls 3 [(0, .ref (ad 7)), (1, .int x)] := hl
  have hx := F.1
  have hb := F.2.1
  have lp : ∀ (d : Nat) (τ : oS) (v : Nat), d < 100001 → v ≤ n → se_I τ n r u v → se_G σ n r u f = se_g n r u d τ → ∀ (H : Heap) (locs : List Loc), va_P D vwCl (ow cI cL ad τ) H → va_D A (ow cI cL ad τ) → va_S A s.heap H locs → ∀ ls : Array Slot, lv_has ls 3 [(2, .int (nI d)), (0, .ref (ad 7)), (1, .int x)] → W p l e { frames := 4, cells := 0, slots := 0, locals := 89 } s m ([.ref (ad 7), .int x] : List Value).toArray below meth c H locs 0 0 (MQ below (ok_qA D vwCl A (ow cI cL ad (se_G σ n r u f)) (some (.int (se_r (se_G σ n r u f))))) ([.ref (ad 7), .int x] : List Value).toArray s 0 0 A) (F0 m 16 ls []) := by
    intro d
    induction d with
    | zero =>
      intro τ v hd hv hI heq H locs hP hD hS ls hl
      rw [se_g] at heq
      refine lv_iload_n hx hb d_Se_goOn_16 rfl (lv_at hl 0 rfl) ?_
      refine lv_if_le (tgt := 37) hx hb d_Se_goOn_17 (by decide) (fun c1 => ?_) (fun c1 => ?_)
      · refine lv_aload_n hx hb d_Se_goOn_37 rfl (lv_at hl 1 rfl) ?_
        refine gf_Se_at F hK hP d_Se_goOn_38 ?_
        refine lv_if_lt (tgt := 46) hx hb d_Se_goOn_41 (by decide) (fun c2 => ?_) (fun c2 => ?_)
        · refine lv_aload_n hx hb d_Se_goOn_46 rfl (lv_at hl 1 rfl) ?_
          refine gf_Se_found F hK hP d_Se_goOn_47 ?_
          refine lv_if_eq (tgt := 57) hx hb d_Se_goOn_50 (by decide) (fun c3 => ?_) (fun c3 => ?_)
          · refine lv_iconst (v := 1) hx hb d_Se_goOn_57 (by decide) ?_
            exact ok_iretM F hr hlk (by rw [heq]; exact hP) (by rw [heq]; exact hD) hS (by rw [heq]; first | (simp [se_r, c2, c3]; done) | exact absurd c2 c3) d_Se_goOn_58
          · refine lv_iconst (v := 0) hx hb d_Se_goOn_53 (by decide) ?_
            refine lv_goto (tgt := 58) hx hb d_Se_goOn_54 (by decide) ?_
            exact ok_iretM F hr hlk (by rw [heq]; exact hP) (by rw [heq]; exact hD) hS (by rw [heq]; first | (simp [se_r, c2, c3]; done) | exact absurd c2 c3) d_Se_goOn_58
        · refine lv_iconst (v := 2) hx hb d_Se_goOn_44 (by decide) ?_
          exact ok_iretM F hr hlk (by rw [heq]; exact hP) (by rw [heq]; exact hD) hS (by rw [heq]; first | (simp [se_r, c1, c2]; done) | exact absurd c1 c2) d_Se_goOn_45
      · exact absurd (by decide) c1
    | succ d ih =>
      intro τ v hd hv hI heq H locs hP hD hS ls hl
      obtain ⟨i1, i2, i3, i4, i5⟩ := id hI
      rw [se_g, se_L_of i5 (by omega)] at heq
      rcases v with _ | k
      · rw [if_pos rfl] at heq
        refine lv_iload_n hx hb d_Se_goOn_16 rfl (lv_at hl 0 rfl) ?_
        refine lv_if_le (tgt := 37) hx hb d_Se_goOn_17 (by decide) (fun c4 => ?_) (fun c4 => ?_)
        · exact absurd c4 (nI_nle (by omega) (by omega))
        · refine lv_aload_n hx hb d_Se_goOn_20 rfl (lv_at hl 1 rfl) ?_
          refine gf_Se_at F hK hP d_Se_goOn_21 ?_
          refine lv_if_lt (tgt := 37) hx hb d_Se_goOn_24 (by decide) (fun c5 => ?_) (fun c5 => ?_)
          · refine lv_aload_n hx hb d_Se_goOn_37 rfl (lv_at hl 1 rfl) ?_
            refine gf_Se_at F hK hP d_Se_goOn_38 ?_
            refine lv_if_lt (tgt := 46) hx hb d_Se_goOn_41 (by decide) (fun c6 => ?_) (fun c6 => ?_)
            · refine lv_aload_n hx hb d_Se_goOn_46 rfl (lv_at hl 1 rfl) ?_
              refine gf_Se_found F hK hP d_Se_goOn_47 ?_
              refine lv_if_eq (tgt := 57) hx hb d_Se_goOn_50 (by decide) (fun c7 => ?_) (fun c7 => ?_)
              · refine lv_iconst (v := 1) hx hb d_Se_goOn_57 (by decide) ?_
                exact ok_iretM F hr hlk (by rw [heq]; exact hP) (by rw [heq]; exact hD) hS (by rw [heq]; first | (simp [se_r, c6, c7]; done) | exact absurd c6 c7) d_Se_goOn_58
              · refine lv_iconst (v := 0) hx hb d_Se_goOn_53 (by decide) ?_
                refine lv_goto (tgt := 58) hx hb d_Se_goOn_54 (by decide) ?_
                exact ok_iretM F hr hlk (by rw [heq]; exact hP) (by rw [heq]; exact hD) hS (by rw [heq]; first | (simp [se_r, c6, c7]; done) | exact absurd c6 c7) d_Se_goOn_58
            · refine lv_iconst (v := 2) hx hb d_Se_goOn_44 (by decide) ?_
              exact ok_iretM F hr hlk (by rw [heq]; exact hP) (by rw [heq]; exact hD) hS (by rw [heq]; first | (simp [se_r, c5, c6]; done) | exact absurd c5 c6) d_Se_goOn_45
          · exact absurd (by rw [i5]; decide) c5
      · rw [if_neg (by omega), Nat.add_sub_cancel] at heq
        rw [nI_pred] at i5
        obtain ⟨q9, hq9, hI9⟩ := se_s_I (by omega) hI
        refine lv_iload_n hx hb d_Se_goOn_16 rfl (lv_at hl 0 rfl) ?_
        refine lv_if_le (tgt := 37) hx hb d_Se_goOn_17 (by decide) (fun c8 => ?_) (fun c8 => ?_)
        · exact absurd c8 (nI_nle (by omega) (by omega))
        · refine lv_aload_n hx hb d_Se_goOn_20 rfl (lv_at hl 1 rfl) ?_
          refine gf_Se_at F hK hP d_Se_goOn_21 ?_
          refine lv_if_lt (tgt := 37) hx hb d_Se_goOn_24 (by decide) (fun c9 => ?_) (fun c9 => ?_)
          · exact absurd c9 (by rw [i5]; exact nI_pos (by omega))
          · refine lv_aload_n hx hb d_Se_goOn_27 rfl (lv_at hl 1 rfl) ?_
            refine x_Se_step (r := r) (u := u) i2 i3 hr4 hu4 (n := n) i1 hn9 (k := k) i5 (by omega) i4 F (tt3 5 rfl rfl) ⟨Nat.le_of_ble_eq_true rfl, Nat.le_of_ble_eq_true rfl⟩ hK hP hD hS hA hl.1 (Nat.le_of_ble_eq_true rfl) ⟨Nat.zero_le _, Nat.zero_le _⟩ d_Se_goOn_28 (fun H locs hP hD hS => ?_)
            refine lv_iinc (v := (nI (d + 1)) + (-1)) (lv' := [(2, .int ((nI (d + 1)) + (-1))), (0, .ref (ad 7)), (1, .int x)]) hx hb d_Se_goOn_31 hl (k := 0) rfl (by rw [litm1]) (by decide) rfl (fun ls hl => ?_)
            refine lv_goto (tgt := 16) hx hb d_Se_goOn_34 (by decide) ?_
            rw [pk_m1] at hl
            exact ih _ q9 (by omega) hq9 hI9 heq H locs hP hD hS ls (lv_sub hl [0, 1, 2] rfl)
  refine lv_aload_n hx hb d_Se_goOn_0 rfl (lv_at hl 0 rfl) ?_
  refine gf_Se_columns F hK hP d_Se_goOn_1 ?_
  refine x_Co_count F (tt2 100 rfl rfl) ⟨Nat.le_of_ble_eq_true rfl, Nat.le_of_ble_eq_true rfl⟩ hK hP hl.1 (Nat.le_of_ble_eq_true rfl) ⟨Nat.zero_le _, Nat.zero_le _⟩ d_Se_goOn_4 ?_
  refine lv_if_ne (tgt := 14) hx hb d_Se_goOn_7 (by decide) (fun c10 => ?_) (fun c10 => ?_)
  · refine lv_iload_n hx hb d_Se_goOn_14 rfl (lv_at hl 1 rfl) ?_
    refine lv_istore_n (lv' := [(2, .int x), (0, .ref (ad 7)), (1, .int x)]) hx hb d_Se_goOn_15 rfl hl (by decide) rfl (fun ls hl => ?_)
    have hl : lv_has ls 3 [(2, .int (nI f)), (0, .ref (ad 7)), (1, .int x)] := by rw [← hf]; exact (lv_sub hl [0, 1, 2] rfl)
    have hn0 : n ≠ 0 := fun h0 => c10 (by rw [hn, h0]; rfl)
    exact lp f σ q hf9 (hqn hn0) ⟨hn, h_r, h_u, hfo, hq⟩ (by rw [se_G, if_neg hn0]) _ _ hP hD hS ls hl
  · refine lv_aload_n hx hb d_Se_goOn_10 rfl (lv_at hl 0 rfl) ?_
    refine x_Se_endWithoutColumns (r := r) (u := u) h_r h_u hr4 hu4 F (tt2 236 rfl rfl) ⟨Nat.le_of_ble_eq_true rfl, Nat.le_of_ble_eq_true rfl⟩ hK hP hD hS hA hl.1 (Nat.le_of_ble_eq_true rfl) ⟨Nat.zero_le _, Nat.zero_le _⟩ d_Se_goOn_11 (fun H locs hP hD hS => ?_)
    refine lv_iload_n hx hb d_Se_goOn_14 rfl (lv_at hl 1 rfl) ?_
    refine lv_istore_n (lv' := [(2, .int x), (0, .ref (ad 7)), (1, .int x)]) hx hb d_Se_goOn_15 rfl hl (by decide) rfl (fun ls hl => ?_)
    have hl : lv_has ls 3 [(2, .int (nI f)), (0, .ref (ad 7)), (1, .int x)] := by rw [← hf]; exact (lv_sub hl [0, 1, 2] rfl)
    have hn0 : n = 0 := by
      rw [hn, ← nI_0, nI_eq (by omega) (by decide)] at c10; exact c10
    exact lp f _ 0 hf9 (by omega) ⟨by simp [se_0, u3_at, hn], by simp [se_0, u3_at, h_r], by simp [se_0, u3_at, h_u], by simp [se_0, u3_at], by rw [se_0, u3_s]; rfl⟩ (by rw [se_G, if_pos hn0]) _ _ hP hD hS ls hl
theorem x_Se_goOn {σ : oS} {r : Nat} {u : Nat} (h_r : σ 9 0 0 = nI r) (h_u : σ 10 0 0 = nI u) (hr4 : r ≤ 4) (hu4 : u ≤ 4) {n : Nat} (hn : σ 2 0 0 = nI n) (hn9 : n ≤ 5) (hfo : σ 17 0 0 = 0 ∨ σ 17 0 0 = 1) {q : Nat} (hq : σ 15 0 0 = nI q - 1) (hqn : n ≠ 0 → q ≤ n) {x : Int32} {f : Nat} (hf : x = nI f) (hf9 : f < 100001) (F : CallFix p m c cc nL s args (cw :: tt) own) (hG : Cond.methodLink own index y_Se_goOn ∈ tt) (hR : 4 + 1 ≤ R.frames ∧ 8 + (3 + 11) + 89 ≤ R.locals) (hK : va_K D vwCl (ot cI cL) s) (hP : va_P D vwCl (ow cI cL ad σ) H) (hD : va_D A (ow cI cL ad σ)) (hS : va_S A H0 H locs) (hA : ∀ q, H0.size ≤ q → A q) (hsz : ls.size = nL) (hW : (rest.map fun v => v.category).sum ≤ 8) (hcs : cells ≤ R.cells ∧ slots ≤ R.slots) (hdg : decode cc pc = .ok (.invokevirtual index, 3)) (kk : ∀ (H1 : Heap) (locs1 : List Loc), va_P D vwCl (ow cI cL ad (se_G σ n r u f)) H1 → va_D A (ow cI cL ad (se_G σ n r u f)) → va_S A H0 H1 locs1 → W p l e R s m args below meth c H1 locs1 cells slots Q (F0 m (pc + 3) ls (.int (se_r (se_G σ n r u f)) :: rest))) : W p l e R s m args below meth c H locs cells slots Q (F0 m pc ls (.int x :: .ref (ad 7) :: rest)) :=
  ok_VM (As := [.int x]) F (c_Se_goOn σ h_r h_u hr4 hu4 hn hn9 hfo hq hqn hf hf9) 1 (tt_V hG i_Se_goOn l_Se_goOn in9_Se k_Se_goOn) rfl ⟨rfl, rfl⟩ (by decide +kernel) hR hK hP hD hS hA (7) 3 rfl rfl ow_7 rfl hsz rfl hW hcs hdg kk
end
