/-! PURE: the sums of the search, on both sides -/
section
variable {σ τ : oS} {n r u k : Nat}
def pu (g : Nat → Int32) (m : Nat) : Nat → Int32
  | 0 => 0
  | d + 1 => pu g m d + g (m + d)
theorem pu_shift (g : Nat → Int32) (m d : Nat) : pu g m (d + 1) = g m + pu g (m + 1) d := by
  induction d with
  | zero => show 0 + g (m + 0) = g m + 0; rw [Int32.zero_add, Int32.add_zero, Nat.add_zero]
  | succ d ih => rw [pu, ih, pu, Int32.add_assoc, show m + (d + 1) = m + 1 + d by omega]
theorem se_q_pu (d : Nat) (hd : d ≤ n) : se_q σ n d = pu (se_m σ) (n - d) d := by
  induction d with
  | zero => rfl
  | succ d ih => rw [se_q, ih (by omega), pu_shift, show n - (d + 1) + 1 = n - d by omega, Int32.add_comm]
theorem li_q_pu {i : Nat} (d : Nat) (hd : d ≤ n) : li_q σ i n d = pu (li_k σ i) (n - d) d := by
  induction d with
  | zero => rfl
  | succ d ih => rw [li_q, ih (by omega), pu_shift, show n - (d + 1) + 1 = n - d by omega, Int32.add_comm]
theorem mo_s2_pu (h : pL σ τ n r u) {i : Nat} (hi : i < r + u) {s : Int32} (m d : Nat) (hd : m + d ≤ 5) : mo_s2 τ r i m s d = s + pu (li_k σ (ls_i r i)) m d := by
  induction d with
  | zero => rw [mo_s2, pu, Int32.add_zero]
  | succ d ih => rw [mo_s2, ih (by omega), ← pv_y h hi (by omega), pu, Int32.add_assoc]
theorem pc_m (h : pL σ τ n r u) {c : Nat} {s : Int32} : s + se_m σ c = if τ 10 0 c ≤ 0 then s else s + τ 10 0 c * τ 11 0 c := by
  obtain ⟨b1, b2, b3⟩ := h.2.1
  have hb := b3 c
  unfold se_m
  rw [b1, b2] at *
  generalize τ 10 0 c = w at *
  generalize τ 11 0 c = t at *
  obtain ⟨h1, h2, h3, h4⟩ := hb
  have p1 : w.toInt * t.toInt ≤ 1000 * t.toInt := Int.mul_le_mul_of_nonneg_right h2 h3
  have p2 : -1000 * t.toInt ≤ w.toInt * t.toInt := Int.mul_le_mul_of_nonneg_right h1 h3
  have hm : (w * t).toInt = w.toInt * t.toInt := by
    rw [Int32.toInt_mul]
    apply Int.bmod_eq_of_le <;> omega
  have z0 : (0 : Int32).toInt = 0 := by decide
  by_cases hw : w ≤ 0
  · rw [if_pos hw]
    rw [Int32.le_iff_toInt_le, z0] at hw
    have p3 : w.toInt * t.toInt ≤ 0 * t.toInt := Int.mul_le_mul_of_nonneg_right hw h3
    by_cases q : w * t < 0
    · rw [if_pos q, Int32.add_zero]
    · rw [if_neg q]
      rw [Int32.lt_iff_toInt_lt, z0, hm] at q
      have : w * t = 0 := Int32.toInt_inj.mp (by rw [hm, z0]; omega)
      rw [this, Int32.add_zero]
  · rw [if_neg hw]
    rw [Int32.le_iff_toInt_le, z0] at hw
    have p3 : 0 ≤ w.toInt * t.toInt := Int.mul_nonneg (by omega) h3
    rw [if_neg (by rw [Int32.lt_iff_toInt_lt, z0, hm]; omega)]
theorem mo_m_pu (h : pL σ τ n r u) (m d : Nat) : mo_m τ m d = mo_w τ m + pu (se_m σ) m d := by
  induction d with
  | zero => rw [mo_m, pu, Int32.add_zero]
  | succ d ih => rw [mo_m, ih, pu, ← Int32.add_assoc, pc_m h]
theorem ls_v_t {i a j : Nat} {y : Int32} : ls_v (ls_t τ i j y) a j y = ls_v τ a j y := by
  unfold ls_v li_h
  rw [ls_t_c (c := 4) (by decide), ls_t_c (c := 5) (by decide), ls_t_c (c := 3) (by decide), ls_t_c (c := 8) (by decide)]
  have e : ls_t τ i j y 7 a j = τ 7 a j := by unfold ls_t; rw [u3_at, if_neg (by omega)]
  rw [e]
theorem ls_x_spec {j : Nat} {y : Int32} (hr : r ≤ 4) : ∀ (f i : Nat) (τ : oS), ((ls_x r j y f i τ).2 = 0 ↔ ∃ i', i ≤ i' ∧ i' < i + f ∧ ls_v τ (ls_i r i') j y = 0) ∧ (∀ a b, b ≠ j + 1 → (ls_x r j y f i τ).1 7 a b = τ 7 a b) ∧
    (¬ (ls_x r j y f i τ).2 = 0 → ∀ i', i ≤ i' → i' < i + f → (ls_x r j y f i τ).1 7 (ls_i r i') (j + 1) = τ 7 (ls_i r i') j + τ 3 (ls_i r i') j * y) ∧ ∀ i', i' < i → (ls_x r j y f i τ).1 7 (ls_i r i') (j + 1) = τ 7 (ls_i r i') (j + 1) := by
  intro f
  induction f with
  | zero =>
    intro i τ
    refine ⟨⟨fun h => absurd h (show ¬ (1 : Int32) = 0 by decide), fun ⟨i', h1, h2, _⟩ => by omega⟩, fun a b _ => rfl, fun _ i' h1 h2 => by omega, fun _ _ => rfl⟩
  | succ f ih =>
    intro i τ
    by_cases hv : ls_v τ (ls_i r i) j y = 0
    · rw [ls_x, if_pos hv]
      refine ⟨⟨fun _ => ⟨i, Nat.le_refl _, by omega, hv⟩, fun _ => rfl⟩, fun a b hb => ?_, fun h => absurd rfl h, fun i' hi' => ?_⟩
      · show ls_t τ (ls_i r i) j y 7 a b = _
        unfold ls_t; rw [u3_at, if_neg (fun q => hb q.2.2)]
      · show ls_t τ (ls_i r i) j y 7 _ _ = _
        unfold ls_t; rw [u3_i (fun q => by have := ls_i_inj hr q; omega)]
    · rw [ls_x, if_neg hv]
      obtain ⟨a1, a2, a3, a4⟩ := ih (i + 1) (ls_t τ (ls_i r i) j y)
      have t7 : ∀ a b, b ≠ j + 1 → ls_t τ (ls_i r i) j y 7 a b = τ 7 a b := fun a b hb => by unfold ls_t; rw [u3_at, if_neg (fun q => hb q.2.2)]
      refine ⟨a1.trans ⟨fun ⟨i', h1, h2, h3⟩ => ⟨i', by omega, by omega, by rw [ls_v_t] at h3; exact h3⟩, fun ⟨i', h1, h2, h3⟩ => ⟨i', ?_, by omega, by rw [ls_v_t]; exact h3⟩⟩, fun a b hb => (a2 a b hb).trans (t7 a b hb), fun h i' h1 h2 => ?_, fun i' hi' => ?_⟩
      · by_cases e : i' = i
        · subst e; exact absurd h3 hv
        · omega
      · by_cases e : i' = i
        · subst e
          rw [a4 i' (by omega)]
          unfold ls_t; rw [u3_s]
        · rw [a3 h i' (by omega) (by omega), t7 _ _ (by omega), ls_t_c (by decide)]
      · rw [a4 i' (by omega)]
        unfold ls_t; rw [u3_i (fun q => by have := ls_i_inj hr q; omega)]
theorem mo_all_iff {n m : Nat} : ∀ k, mo_all τ r n m k = true ↔ ∀ i, i < k → ¬ mo_l τ r n m i = 0 := by
  intro k
  induction k with
  | zero => exact ⟨fun _ i h => by omega, fun _ => rfl⟩
  | succ k ih =>
    rw [mo_all, Bool.and_eq_true, ih]
    constructor
    · rintro ⟨a, b⟩ i hi
      by_cases e : i = k
      · subst e
        rw [beq_iff_eq] at b
        rw [b]; decide
      · exact a i (by omega)
    · intro a
      refine ⟨fun i hi => a i (by omega), ?_⟩
      rw [beq_iff_eq]
      exact mo_h_1 (a k (by omega))
/-- at a step: numbers on both sides -/
theorem pk_w (hL : pL σ τ n r u) (h : ∀ j, j < k → σ 11 0 j = τ 20 0 j) : ∀ d, d ≤ k → mo_w τ d = pw σ d := by
  intro d
  induction d with
  | zero => intro _; rfl
  | succ d ih => intro hd; rw [mo_w, pw, ih (by omega), h d (by omega), hL.2.1.1]
theorem pk_s (hL : pL σ τ n r u) (h : ∀ j, j < k → σ 11 0 j = τ 20 0 j) (hk : k ≤ 5) {i : Nat} (hi : i < r + u) : ∀ d, d ≤ k → mo_s1 τ r i 11 d = ps σ (ls_i r i) d := by
  intro d
  induction d with
  | zero => intro _; rfl
  | succ d ih => intro hd; rw [mo_s1, ps, ih (by omega), h d (by omega), pv_f hL hi (by omega)]
/-- the reference's cut at column k, in the class's words -/
theorem pk_c (hL : pL σ τ n r u) (hF : pF σ τ n) (hH : pH σ n r u) (hk : k < n) (hn : n ≤ 5) (h : ∀ j, j < k + 1 → σ 11 0 j = τ 20 0 j) (h13 : σ 13 0 k = pw σ k) (h7 : ∀ i, i < r + u → σ 7 (ls_i r i) k = ps σ (ls_i r i) k) :
    (mo_c τ r u n (k + 1) = 0 ↔ ¬ se_w σ (σ 13 0 k + σ 0 0 k * σ 11 0 k + σ 14 0 (k + 1)) = 0 ∧ ∀ i, i < r + u → ¬ ls_v σ (ls_i r i) k (σ 11 0 k) = 0) ∧ mo_w τ (k + 1) = σ 13 0 k + σ 0 0 k * σ 11 0 k := by
  have ew : mo_w τ (k + 1) = σ 13 0 k + σ 0 0 k * σ 11 0 k := by rw [pk_w hL h (k + 1) (Nat.le_refl _), pw, h13]
  refine ⟨?_, ew⟩
  have em : mo_m τ (k + 1) (n - (k + 1)) = σ 13 0 k + σ 0 0 k * σ 11 0 k + σ 14 0 (k + 1) := by
    rw [mo_m_pu hL, ew, hH.1 (k + 1) (by omega), se_q_pu _ (by omega), show n - (n - (k + 1)) = k + 1 by omega]
  have el : ∀ i, i < r + u → mo_l τ r n (k + 1) i = ls_v σ (ls_i r i) k (σ 11 0 k) := by
    intro i hi
    unfold mo_l ls_v
    rw [mo_s2_pu hL hi _ _ (by omega), pk_s hL h (by omega) hi (k + 1) (Nat.le_refl _), ps, pv_h hL hi, h7 i hi, hH.2 i hi (k + 1) (by omega), li_q_pu _ (by omega), show n - (n - (k + 1)) = k + 1 by omega]
  have ea : (¬ τ 7 0 0 = 0 ∧ mo_m τ (k + 1) (n - (k + 1)) ≤ τ 9 0 0) ↔ se_w σ (σ 13 0 k + σ 0 0 k * σ 11 0 k + σ 14 0 (k + 1)) = 0 := by
    rw [em]
    unfold se_w
    rw [← hF.1.1]
    rcases hF.1.2.1 with q | q
    · rw [if_pos q]
      exact ⟨fun z => absurd q z.1, fun z => absurd z (by decide)⟩
    · rw [if_neg (by rw [q]; decide), ← (hF.2 q).1]
      constructor
      · intro z; rw [if_pos z.2]
      · intro z
        refine ⟨by rw [q]; decide, ?_⟩
        by_cases w : σ 13 0 k + σ 0 0 k * σ 11 0 k + σ 14 0 (k + 1) ≤ σ 18 0 0
        · exact w
        · rw [if_neg w] at z; exact absurd z (by decide)
  unfold mo_c
  by_cases q : ¬ τ 7 0 0 = 0 ∧ mo_m τ (k + 1) (n - (k + 1)) ≤ τ 9 0 0
  · rw [if_pos q]
    exact ⟨fun z => absurd z (by decide), fun z => absurd (ea.mp q) z.1⟩
  · rw [if_neg q]
    have q2 : ¬ se_w σ (σ 13 0 k + σ 0 0 k * σ 11 0 k + σ 14 0 (k + 1)) = 0 := fun z => q (ea.mpr z)
    by_cases w : mo_all τ r n (k + 1) (r + u) = true
    · rw [if_pos w]
      exact ⟨fun _ => ⟨q2, fun i hi => by rw [← el i hi]; exact (mo_all_iff _).mp w i hi⟩, fun _ => rfl⟩
    · rw [if_neg w]
      refine ⟨fun z => absurd z (by decide), fun z => absurd ((mo_all_iff _).mpr (fun i hi => by rw [el i hi]; exact z.2 i hi)) w⟩
end
