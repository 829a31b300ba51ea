/-! PURE: contradiction, check, certificate -/
section
variable {l : Launch} {σ μ : oS} {n r u : Nat}
theorem of_cong {p q : Nat → Bool} : ∀ (f k : Nat), (∀ i, k ≤ i → i < k + f → p i = q i) → ob_first p f k = ob_first q f k := by
  intro f
  induction f with
  | zero => intro k _; rfl
  | succ f ih =>
    intro k h
    rw [ob_first, ob_first, h k (Nat.le_refl _) (by omega), ih (k + 1) (fun i h1 h2 => h i (by omega) (by omega))]
theorem pv_s (h : pL σ μ n r u) {k : Nat} (hk : k < r + u) : ∀ d, d ≤ 5 → li_s σ (ls_i r k) d = mo_s2 μ r k 0 0 d := by
  intro d
  induction d with
  | zero => intro _; rfl
  | succ d ih =>
    intro hd
    rw [li_s, mo_s2, ih (by omega), pv_y h hk (by omega), Nat.zero_add]
theorem pL_thr {v : Int32} (h : pL σ μ n r u) : pL σ (u3 μ 0 0 0 v) n r u := pL_of h (fun _ _ => rfl) (fun c hc => u3_c (by rintro rfl; simp at hc))
set_option maxHeartbeats 1000000 in
theorem s_contradiction : st_contradiction l pR := by
  intro σ μ h D cI cL cZ cJ ad am o fj
  obtain ⟨n, r, u, hL, hS⟩ := id h
  obtain ⟨ha, hb, hc, hd, he, hf⟩ := pL_iff.mp hL
  obtain ⟨hn, hr, hu, e1, e2, e3, e4, e5, e6⟩ := id ha
  have hL2 := pL_thr (v := 0) hL
  have e : ob_D σ r u n = md_D (u3 μ 0 0 0 0) r u n := by
    unfold ob_D md_D
    refine of_cong _ _ (fun i _ hi => ?_)
    rw [pv_h hL2 (by omega), pv_s hL2 (by omega) n hn]
    rfl
  have cM := c_Mo_contradiction (l := l) (D := D) (cI := cI) (cZ := cZ) (ad := am) μ e4 e6 hr hu e2 hn hd.1
  rw [← e] at cM
  exact ⟨_, _, _, _, (by exact ⟨rfl, rfl, Nat.le_of_ble_eq_true rfl, Nat.le_of_ble_eq_true rfl⟩), c_OB_contradiction σ e3 e5 hr hu e1 hn, (by exact ⟨rfl, rfl, Nat.le_of_ble_eq_true rfl, Nat.le_of_ble_eq_true rfl⟩), cM, pR_thr h⟩
theorem bt_63 (i : Nat) : bt 63 i = decide (i < 6) := by
  by_cases h : i < 32
  · exact (show ∀ i, i < 32 → bt 63 i = decide (i < 6) by decide +kernel) i h
  · rw [b_big (by omega)]
    simp; omega
theorem pc_u {x : Int32} {k : Nat} (hk : k < 5) : ob_u x (nI k) = md_b x k := by
  unfold ob_u md_b
  have e : (6 : Int32) * nI k = nI (6 * k) := by rw [show (6 : Int32) = nI 6 from rfl, pk_mul]
  rw [e]
  apply b_ext
  intro i hi
  rw [b_and, b_and, b_ushr (6 * k) (by omega), b_sshr (6 * k) (by omega) x hi, bt_63]
  by_cases h : i < 6
  · rw [if_pos (by omega)]
  · simp [h]
theorem md_t_at {τ : oS} {x : Int32} : ∀ (m c : Nat), c < m → md_t τ x m 23 0 c = md_b x c := by
  intro m
  induction m with
  | zero => intro c h; omega
  | succ m ih =>
    intro c h
    rw [md_t]
    by_cases e : c = m
    · subst e; rw [u3_s]
    · rw [u3_j e]; exact ih c (by omega)
theorem pv_s1 (h : pL σ μ n r u) {k : Nat} (hk : k < r + u) {x : Int32} (hW : ∀ c, c < n → μ 23 0 c = md_b x c) (hn : n ≤ 5) : ∀ d, d ≤ n → ob_s σ (ls_i r k) x d = mo_s1 μ r k 14 d := by
  intro d
  induction d with
  | zero => intro _; rfl
  | succ d ih =>
    intro hd
    rw [ob_s, mo_s1, ih (by omega), pv_f h hk (by omega), pc_u (by omega), hW d (by omega)]
set_option maxHeartbeats 1000000 in
theorem s_check : st_check l pR := by
  intro σ μ h x D cI cL cZ cJ ad am o fj
  obtain ⟨n, r, u, hL, hS⟩ := id h
  obtain ⟨ha, hb, hc, hd, he, hf⟩ := pL_iff.mp hL
  obtain ⟨hn, hr, hu, e1, e2, e3, e4, e5, e6⟩ := id ha
  have hL2 := pL_thr (v := 0) hL
  have hL3 : pL σ (md_t (u3 μ 0 0 0 0) x n) n r u := pL_of hL2 (fun _ _ => rfl) (fun c hc => md_t_c (by rintro rfl; simp at hc))
  have g1 : ob_H1 σ n x = md_1 (u3 μ 0 0 0 0) n x := by
    unfold ob_H1 md_1
    refine of_cong _ _ (fun i _ hi => ?_)
    rw [pc_u (by omega), hL2.2.1.2.1]
  have g2 : ob_H2 σ r u n x = md_2 (md_t (u3 μ 0 0 0 0) x n) r u n := by
    unfold ob_H2 md_2
    refine of_cong _ _ (fun i _ hi => ?_)
    rw [pv_h hL3 (by omega), pv_s1 hL3 (by omega) (fun c hc => md_t_at n c hc) hn n (Nat.le_refl _), Nat.sub_self]
    rfl
  have e : ob_H σ r u n x = (md_H (u3 μ 0 0 0 0) r u n x).2 := by
    unfold ob_H md_H
    rw [g1, g2]
    cases md_1 (u3 μ 0 0 0 0) n x <;> rfl
  have cM := c_Mo_check (l := l) (D := D) (cI := cI) (cZ := cZ) (ad := am) (x := x) μ e4 e6 hr hu e2 hn hd.1
  rw [← e] at cM
  refine ⟨_, _, _, _, (by exact ⟨rfl, rfl, Nat.le_of_ble_eq_true rfl, Nat.le_of_ble_eq_true rfl⟩), c_OB_check σ e3 e5 hr hu e1 hn, (by exact ⟨rfl, rfl, Nat.le_of_ble_eq_true rfl, Nat.le_of_ble_eq_true rfl⟩), cM, pR_mu h (fun c h0 _ h23 => ?_)⟩
  unfold md_H
  cases md_1 (u3 μ 0 0 0 0) n x with
  | none => exact (md_t_c h23).trans (u3_c h0)
  | some k => exact (md_t_c h23).trans (u3_c h0)
theorem l_sub3 (a b c : Int64) : a - b - c = a - (b + c) := by
  apply Int64.toBitVec_inj.mp
  simp only [Int64.toBitVec_sub, Int64.toBitVec_add]
  rw [BitVec.sub_eq_add_neg, BitVec.sub_eq_add_neg, BitVec.sub_eq_add_neg, BitVec.neg_add, BitVec.sub_eq_add_neg, BitVec.add_assoc]
theorem pv_wr (h : pL σ μ n r u) : ∀ d, d ≤ r + u → ls_wr σ r d = me_1 μ r d := by
  intro d
  induction d with
  | zero => intro _; rfl
  | succ d ih =>
    intro hd
    rw [ls_wr, me_1, ih (by omega), h.2.2.2.2.1 d (by omega), pv_r h (by omega)]
theorem pv_wf (h : pL σ μ n r u) {c : Nat} (hc : c < 5) : ∀ d, d ≤ r + u → 1000 * Int32.toInt64 (σ 0 0 c) - ls_wf σ r c d = me_v μ r c d := by
  intro d
  induction d with
  | zero =>
    intro _
    rw [ls_wf, me_v, h.2.1.1, Int64.sub_zero]
  | succ d ih =>
    intro hd
    rw [ls_wf, me_v, ← l_sub3, ih (by omega), h.2.2.2.2.1 d (by omega), pv_f h (by omega) hc]
theorem pv_C (h : pL σ μ n r u) (hn : n ≤ 5) : ∀ d, d ≤ n → ob_C σ r u d = me_2 μ r u d := by
  intro d
  induction d with
  | zero => intro _; exact pv_wr h _ (Nat.le_refl _)
  | succ d ih =>
    intro hd
    have e : ob_R σ r u d = me_v μ r d (r + u) := pv_wf h (by omega) _ (Nat.le_refl _)
    rw [ob_C, me_2, ih (by omega), e, h.2.1.2.1, Int64.mul_comm]
theorem l_xor (x : Int64) : (0 ≤ x ^^^ 1000) ↔ 0 ≤ x := by
  have h : ∀ y : Int64, (0 ≤ y) ↔ y.toBitVec.msb = false := by
    intro y
    rw [Int64.le_iff_toInt_le, BitVec.msb_eq_toInt]
    show (0 : Int) ≤ y.toBitVec.toInt ↔ _
    simp
  rw [h, h, Int64.toBitVec_xor, BitVec.msb_xor, show (1000 : Int64).toBitVec.msb = false by decide, Bool.xor_false]
theorem l_fd (x : Int64) : ob_fd x 1000 = me_q x := by
  unfold ob_fd me_q
  have hx1 := Int64.le_toInt x
  have hx2 := Int64.toInt_lt x
  have e0 : (1000 : Int64).toInt = 1000 := by decide
  have d1 : (x / 1000).toInt = x.toInt.tdiv 1000 := by
    rw [Int64.toInt_div, e0]
    apply Int.bmod_eq_of_le
    · rcases Int.le_total 0 x.toInt with h | h
      · have := Int.tdiv_nonneg h (by decide : (0 : Int) ≤ 1000); omega
      · have := Int.neg_tdiv (a := -x.toInt) (b := 1000)
        rw [Int.neg_neg] at this
        rw [this, Int.tdiv_eq_ediv_of_nonneg (by omega)]
        omega
    · rcases Int.le_total 0 x.toInt with h | h
      · rw [Int.tdiv_eq_ediv_of_nonneg h]; omega
      · have := Int.neg_tdiv (a := -x.toInt) (b := 1000)
        rw [Int.neg_neg] at this
        rw [this, Int.tdiv_eq_ediv_of_nonneg (by omega)]
        omega
  have d2 : (x / 1000 * 1000).toInt = x.toInt.tdiv 1000 * 1000 := by
    rw [Int64.toInt_mul, d1, e0]
    apply Int.bmod_eq_of_le
    · rcases Int.le_total 0 x.toInt with h | h
      · rw [Int.tdiv_eq_ediv_of_nonneg h]; omega
      · have := Int.neg_tdiv (a := -x.toInt) (b := 1000)
        rw [Int.neg_neg] at this
        rw [this, Int.tdiv_eq_ediv_of_nonneg (by omega)]
        omega
    · rcases Int.le_total 0 x.toInt with h | h
      · rw [Int.tdiv_eq_ediv_of_nonneg h]; omega
      · have := Int.neg_tdiv (a := -x.toInt) (b := 1000)
        rw [Int.neg_neg] at this
        rw [this, Int.tdiv_eq_ediv_of_nonneg (by omega)]
        omega
  by_cases hp : 0 ≤ x
  · rw [if_pos ((lg_cmp_ge _ _).mpr ((l_xor x).mpr hp)), if_pos]
    rw [lg_cmp_le, Int64.le_iff_toInt_le, d2]
    rw [Int64.le_iff_toInt_le] at hp
    rw [Int.tdiv_eq_ediv_of_nonneg hp]
    omega
  · rw [if_neg (fun q => hp ((l_xor x).mp ((lg_cmp_ge _ _).mp q)))]
    have hneg : x.toInt < 0 := by
      rw [Int64.le_iff_toInt_le] at hp
      have : (0 : Int64).toInt = 0 := by decide
      omega
    have ge : x.toInt ≤ x.toInt.tdiv 1000 * 1000 := by
      have := Int.neg_tdiv (a := -x.toInt) (b := 1000)
      rw [Int.neg_neg] at this
      rw [this, Int.tdiv_eq_ediv_of_nonneg (by omega)]
      omega
    by_cases q : x / 1000 * 1000 = x
    · rw [if_pos ((lg_cmp_eq _ _).mpr q), if_pos]
      rw [q, lg_cmp_le]
      exact Int64.le_refl _
    · rw [if_neg (fun z => q ((lg_cmp_eq _ _).mp z)), if_neg]
      rw [lg_cmp_le, Int64.le_iff_toInt_le, d2]
      intro z
      exact q (Int64.toInt_inj.mp (by rw [d2]; omega))
set_option maxHeartbeats 1000000 in
theorem s_certificate : st_certificate l pR := by
  intro σ μ h D cI cL cZ cJ ad am o fj
  obtain ⟨n, r, u, hL, hS⟩ := id h
  obtain ⟨ha, hb, hc, hd, he, hf⟩ := pL_iff.mp hL
  obtain ⟨hn, hr, hu, e1, e2, e3, e4, e5, e6⟩ := id ha
  have hL2 := pL_thr (v := 0) hL
  have e : ob_fd (ob_C σ r u n) 1000 = me_q (me_2 (u3 μ 0 0 0 0) r u n) := by rw [l_fd, pv_C hL2 hn n (Nat.le_refl _)]
  have cM := c_Mo_certificate (l := l) (D := D) (cI := cI) (cZ := cZ) (ad := am) μ e4 e6 hr hu e2 hn hd.1
  rw [← e] at cM
  exact ⟨_, _, _, _, (by exact ⟨rfl, rfl, Nat.le_of_ble_eq_true rfl, Nat.le_of_ble_eq_true rfl⟩), c_OB_certificate σ e3 e5 hr hu e1 hn, (by exact ⟨rfl, rfl, Nat.le_of_ble_eq_true rfl, Nat.le_of_ble_eq_true rfl⟩), cM, pR_thr h⟩
end
