/-! PURE: lines as the reference sees them; conditions on arguments -/
section
variable {σ μ : oS} {n r u k : Nat}
theorem pv_k (h : pL σ μ n r u) (hk : k < r + u) : σ 4 (ls_i r k) 0 = mo_k μ r k := by
  obtain ⟨⟨-, hr, hu, -⟩, -, h3, -⟩ := h
  unfold ls_i mo_k
  by_cases q : k < r
  · rw [if_pos q, if_pos q]; exact (h3 k (by omega)).1
  · rw [if_neg q, if_neg q]; exact (h3 (k - r) (by omega)).2.2.1
theorem pv_r (h : pL σ μ n r u) (hk : k < r + u) : σ 5 (ls_i r k) 0 = mo_r μ r k := by
  obtain ⟨⟨-, hr, hu, -⟩, -, h3, h4, -⟩ := h
  unfold ls_i
  by_cases q : k < r
  · rw [if_pos q, mo_r, if_pos q]; exact (h3 k (by omega)).2.1
  · rw [if_neg q, (h4.2 (k - r) (by omega)).2.2.2, mo_r, mo_r, if_neg (by omega), if_neg q, Nat.sub_zero]
theorem pv_f (h : pL σ μ n r u) (hk : k < r + u) {j : Nat} (hj : j < 5) : σ 3 (ls_i r k) j = mo_f μ r k j := by
  obtain ⟨⟨-, hr, hu, -⟩, -, h3, h4, -⟩ := h
  unfold ls_i
  by_cases q : k < r
  · rw [if_pos q, mo_f, if_pos q]; exact ((h3 k (by omega)).2.2.2 j hj).1
  · rw [if_neg q, ((h3 (k - r) (by omega)).2.2.2 j hj).2, if_pos (by omega), mo_f, mo_f, if_neg (by omega), if_neg q, Nat.sub_zero]
theorem pv_h (h : pL σ μ n r u) (hk : k < r + u) {x : Int32} : li_h σ (ls_i r k) x = mo_h μ r k x := by
  unfold li_h mo_h
  rw [pv_k h hk, pv_r h hk]
theorem pv_y (h : pL σ μ n r u) (hk : k < r + u) {c : Nat} (hc : c < 5) {x : Int32} : x + li_k σ (ls_i r k) c = mo_y μ r k c x := by
  unfold li_k mo_y
  rw [pv_k h hk, pv_f h hk hc, h.2.1.2.1]
  generalize mo_f μ r k c * μ 11 0 c = z
  split
  · by_cases q : 0 ≤ z
    · rw [if_pos q]
      split
      · rw [Int32.add_zero]
      · rename_i q2
        have : z = 0 := by rw [Int32.le_iff_toInt_le] at q; rw [Int32.lt_iff_toInt_lt] at q2; apply Int32.toInt_inj.mp; omega
        rw [this, Int32.add_zero]
    · rw [if_neg q, if_neg (fun q2 => q (by rw [Int32.le_iff_toInt_le]; rw [Int32.lt_iff_toInt_lt] at q2; omega))]
  · by_cases q : z ≤ 0
    · rw [if_pos q]
      split
      · rw [Int32.add_zero]
      · rename_i q2
        have : z = 0 := by rw [Int32.le_iff_toInt_le] at q; rw [Int32.lt_iff_toInt_lt] at q2; apply Int32.toInt_inj.mp; omega
        rw [this, Int32.add_zero]
    · rw [if_neg q, if_neg (fun q2 => q (by rw [Int32.le_iff_toInt_le]; rw [Int32.lt_iff_toInt_lt] at q2; omega))]
theorem pc_m1 {m : Nat} (hm : m ≤ 100) : (nI m - 1).toInt = (m : Int) - 1 := by
  rw [Int32.toInt_sub, nI_toInt (by omega), show (1 : Int32).toInt = 1 from rfl]
  apply Int.bmod_eq_of_le <;> omega
theorem pc_in {m : Nat} (hm : m ≤ 100) (x : Int32) : (¬ x < 0 ∧ x < nI m ∧ mo_in x 0 (nI m - 1) = 1 ∧ ∃ j, j < m ∧ x = nI j) ∨ (¬ (¬ x < 0 ∧ x < nI m) ∧ mo_in x 0 (nI m - 1) = 0) := by
  unfold mo_in
  by_cases h0 : x < 0
  · exact Or.inr ⟨fun q => q.1 h0, by rw [if_pos h0]⟩
  · obtain ⟨j, hj, rfl⟩ := nI_of h0
    by_cases h1 : j < m
    · refine Or.inl ⟨h0, nI_lt h1 (by omega), ?_, j, h1, rfl⟩
      rw [if_neg h0, if_neg]
      rw [Int32.lt_iff_toInt_lt, pc_m1 hm, nI_toInt hj]
      omega
    · refine Or.inr ⟨fun q => absurd q.2 (nI_nlt (by omega) hj), ?_⟩
      rw [if_neg h0, if_pos]
      rw [Int32.lt_iff_toInt_lt, pc_m1 hm, nI_toInt hj]
      omega
theorem pc_c (h : pL σ μ n r u) (x : Int32) : (ob_c σ x = 0 ∧ mo_in x 0 (μ 1 0 0 - 1) = 1 ∧ ∃ j, j < n ∧ x = nI j) ∨ (¬ ob_c σ x = 0 ∧ mo_in x 0 (μ 1 0 0 - 1) = 0) := by
  obtain ⟨⟨hn, -, -, e1, e2, -⟩, -⟩ := h
  unfold ob_c
  rw [e1, e2]
  rcases pc_in (m := n) (by omega) x with ⟨a, b, c, d⟩ | ⟨a, b⟩
  · exact Or.inl ⟨by rw [if_neg a, if_pos b], c, d⟩
  · refine Or.inr ⟨?_, b⟩
    split
    · decide
    · rename_i q
      rw [if_neg (fun z => a ⟨q, z⟩)]
      decide
theorem pc_r (h : pL σ μ n r u) (x : Int32) : (ob_r σ x = 0 ∧ mo_in x 0 (μ 2 0 0 - 1) = 1 ∧ ∃ j, j < r ∧ x = nI j) ∨ (¬ ob_r σ x = 0 ∧ mo_in x 0 (μ 2 0 0 - 1) = 0) := by
  obtain ⟨⟨-, hr, -, -, -, e1, e2, -⟩, -⟩ := h
  unfold ob_r
  rw [e1, e2]
  rcases pc_in (m := r) (by omega) x with ⟨a, b, c, d⟩ | ⟨a, b⟩
  · exact Or.inl ⟨by rw [if_neg a, if_pos b], c, d⟩
  · refine Or.inr ⟨?_, b⟩
    split
    · decide
    · rename_i q
      rw [if_neg (fun z => a ⟨q, z⟩)]
      decide
theorem pc_iff {x a b : Int32} : (¬ x < a ∧ x ≤ b ∧ mo_in x a b = 1) ∨ (¬ (¬ x < a ∧ x ≤ b) ∧ mo_in x a b = 0) := by
  unfold mo_in
  by_cases h : x < a
  · exact Or.inr ⟨fun q => q.1 h, by rw [if_pos h]⟩
  · by_cases h2 : b < x
    · refine Or.inr ⟨fun q => ?_, by rw [if_neg h, if_pos h2]⟩
      have := q.2
      rw [Int32.le_iff_toInt_le] at this
      rw [Int32.lt_iff_toInt_lt] at h2
      omega
    · refine Or.inl ⟨h, ?_, by rw [if_neg h, if_neg h2]⟩
      rw [Int32.le_iff_toInt_le]
      rw [Int32.lt_iff_toInt_lt] at h2
      omega
theorem pc_v {x : Int32} : (ob_v x = 0 ∧ mo_in x (-10000) 10000 = 1) ∨ (¬ ob_v x = 0 ∧ mo_in x (-10000) 10000 = 0) := by
  rcases pc_iff (x := x) (a := -10000) (b := 10000) with ⟨a, b, c⟩ | ⟨a, b⟩
  · exact Or.inl ⟨by unfold ob_v; rw [if_neg a, if_pos b], c⟩
  · refine Or.inr ⟨?_, b⟩
    unfold ob_v
    split
    · decide
    · rename_i q
      rw [if_neg (fun z => a ⟨q, z⟩)]
      decide
theorem pc_01 {x : Int32} : ((x = 0 ∨ x = 1) ∧ mo_in x 0 1 = 1) ∨ (¬ (x = 0 ∨ x = 1) ∧ mo_in x 0 1 = 0) := by
  rcases pc_iff (x := x) (a := 0) (b := 1) with ⟨a, b, c⟩ | ⟨a, b⟩
  · refine Or.inl ⟨?_, c⟩
    rw [Int32.lt_iff_toInt_lt, show (0 : Int32).toInt = 0 from rfl] at a
    rw [Int32.le_iff_toInt_le, show (1 : Int32).toInt = 1 from rfl] at b
    rcases (show x.toInt = 0 ∨ x.toInt = 1 by omega) with h | h
    · exact Or.inl (Int32.toInt_inj.mp h)
    · exact Or.inr (Int32.toInt_inj.mp h)
  · refine Or.inr ⟨fun q => a ?_, b⟩
    rcases q with rfl | rfl <;> decide
theorem pc_p (h : pL σ μ n r u) (x y : Int32) : (ob_p σ x y = 0 ∧ mo_in x 0 (μ 1 0 0 - 1) = 1 ∧ mo_in y 0 (μ 1 0 0 - 1) = 1 ∧ ¬ x = y ∧ ∃ j t, j < n ∧ t < n ∧ j ≠ t ∧ x = nI j ∧ y = nI t) ∨ (¬ ob_p σ x y = 0 ∧ (mo_in x 0 (μ 1 0 0 - 1) = 0 ∨ mo_in y 0 (μ 1 0 0 - 1) = 0 ∨ x = y)) := by
  unfold ob_p
  rcases pc_c h x with ⟨a, b, j, hj, rfl⟩ | ⟨a, b⟩
  · rw [if_pos a]
    rcases pc_c h y with ⟨a2, b2, t, ht, rfl⟩ | ⟨a2, b2⟩
    · rw [if_pos a2]
      by_cases e : nI j = nI t
      · rw [if_pos e]
        exact Or.inr ⟨by decide, Or.inr (Or.inr e)⟩
      · rw [if_neg e]
        exact Or.inl ⟨rfl, b, b2, e, j, t, hj, ht, fun q => e (by rw [q]), rfl, rfl⟩
    · rw [if_neg a2]
      exact Or.inr ⟨by decide, Or.inr (Or.inl b2)⟩
  · rw [if_neg a]
    exact Or.inr ⟨by decide, Or.inl b⟩
theorem ls_i_inj {k k' : Nat} (hr : r ≤ 4) (e : ls_i r k = ls_i r k') : k = k' := by
  unfold ls_i at e
  split at e <;> split at e <;> omega
end
