/-! PURE: begin; column, row, factor, right, cut -/
section
variable {l : Launch} {σ μ : oS} {n r u : Nat}
theorem se_b_c {c : Nat} (h : c ∉ [7, 8, 11, 13, 14, 15, 16, 17]) : se_b σ n r u c = σ c := by
  simp only [List.mem_cons, List.not_mem_nil, or_false, not_or] at h
  unfold se_b
  rw [u3_c (by omega), u3_c (by omega), u3_c (by omega), u3_c (by omega), u3_c (by omega), ls_b_c (by omega) (by omega), se_h_c (by omega)]
theorem mo_a_c {c : Nat} (h : c ∉ [5, 6, 7, 8, 19]) : mo_a μ c = μ c := by
  simp only [List.mem_cons, List.not_mem_nil, or_false, not_or] at h
  unfold mo_a
  rw [u3_c (by omega), u3_c (by omega), u3_c (by omega), u3_c (by omega), u3_c (by omega)]
theorem ls_b_8 {M k j : Nat} (hr : r ≤ 4) (hk : k < M) (hj : j ≤ n) : ls_b σ r n M 8 (ls_i r k) j = li_q σ (ls_i r k) n (n - j) := by
  induction M with
  | zero => omega
  | succ M ih =>
    rw [ls_b, u3_c (by decide), li_b]
    by_cases e : k = M
    · subst e
      rw [uA_s, if_pos (by omega), li_q_of (ls_b_c (by decide) (by decide)) (ls_b_c (by decide) (by decide)) (ls_b_c (by decide) (by decide))]
    · rw [uA_n (fun q => e (ls_i_inj hr q.2))]
      exact ih (by omega)
theorem ls_b_7 {M k : Nat} (hr : r ≤ 4) (hk : k < M) : ls_b σ r n M 7 (ls_i r k) 0 = 0 := by
  induction M with
  | zero => omega
  | succ M ih =>
    rw [ls_b]
    by_cases e : k = M
    · subst e; rw [u3_s]
    · rw [u3_i (fun q => e (ls_i_inj hr q)), li_b, uA_n (fun q => absurd q.1 (by decide))]
      exact ih (by omega)
theorem p_begin (hL : pL σ μ n r u) : pR (se_b σ n r u) (mo_a μ) := by
  have hr := hL.1.2.1
  refine ⟨n, r, u, pL_of hL (fun c hc => se_b_c ?_) (fun c hc => mo_a_c ?_), ⟨⟨?_, ?_, ?_⟩, ?_⟩, ⟨?_, ?_⟩, Or.inl ⟨?_, 0, fun h => by omega, fun _ => ⟨rfl, ?_⟩, ?_, ?_, ⟨fun j h => absurd h (by omega), ⟨?_, ?_⟩, fun j hj => ?_, fun i hi j hj => ?_⟩⟩⟩
  · simp only [List.mem_cons, List.not_mem_nil, or_false, not_or] at hc ⊢; omega
  · simp only [List.mem_cons, List.not_mem_nil, or_false, not_or] at hc ⊢; omega
  · unfold se_b mo_a; rw [u3_c (by decide), u3_c (by decide), u3_s, u3_c (by decide), u3_s]
  · unfold se_b; rw [u3_c (by decide), u3_c (by decide), u3_s]; exact Or.inl rfl
  · unfold se_b mo_a; rw [u3_c (by decide), u3_c (by decide), u3_c (by decide), u3_s, u3_s]
  · intro q; unfold se_b at q; rw [u3_c (by decide), u3_c (by decide), u3_s] at q; exact absurd q (by decide)
  · intro j hj
    rw [se_q_of (se_b_c (by decide)) (se_b_c (by decide))]
    unfold se_b
    rw [u3_c (by decide), u3_c (by decide), u3_c (by decide), u3_c (by decide), u3_c (by decide), ls_b_c (by decide) (by decide), se_h, uA_s, if_pos (by omega)]
  · intro k hk j hj
    rw [li_q_of (se_b_c (by decide)) (se_b_c (by decide)) (se_b_c (by decide))]
    unfold se_b
    rw [u3_c (by decide), u3_c (by decide), u3_c (by decide), u3_c (by decide), u3_c (by decide), ls_b_8 hr hk hj, li_q_of (se_h_c (by decide)) (se_h_c (by decide)) (se_h_c (by decide))]
  · unfold mo_a; rw [u3_c (by decide), u3_c (by decide), u3_s]
  · unfold se_b; rw [u3_c (by decide), u3_c (by decide), u3_s]
  · unfold se_b; rw [u3_c (by decide), u3_s]; rfl
  · unfold mo_a; rw [u3_c (by decide), u3_c (by decide), u3_c (by decide), u3_c (by decide), u3_s]; rfl
  · unfold se_b mo_a; rw [u3_s, u3_c (by decide), u3_c (by decide), u3_c (by decide), u3_s, hL.2.1.2.1]
  · unfold se_b; rw [u3_s]; exact (hL.2.1.2.2 0).2.2.1
  · rw [show j = 0 by omega]
    unfold se_b; rw [u3_c (by decide), u3_c (by decide), u3_c (by decide), u3_c (by decide), u3_s]; rfl
  · rw [show j = 0 by omega]
    unfold se_b; rw [u3_c (by decide), u3_c (by decide), u3_c (by decide), u3_c (by decide), u3_c (by decide), ls_b_7 hr hi]; rfl
theorem mo_r0 {k : Nat} : mo_r μ 0 k = if μ 11 0 (mo_A μ k) ≤ μ 11 0 (mo_B μ k) then μ 11 0 (mo_B μ k) else μ 11 0 (mo_A μ k) := by
  unfold mo_r
  rw [if_neg (by omega), Nat.sub_zero]
theorem mo_f0 {k j : Nat} : mo_f μ 0 k j = if μ 15 0 k = nI j then 1 else if μ 16 0 k = nI j then 1 else 0 := by
  unfold mo_f
  rw [if_neg (by omega), Nat.sub_zero]
theorem lt5 {n : Nat} (hn : n ≤ 5) : (nI n < 5 ∧ n < 5) ∨ (¬ nI n < 5 ∧ n = 5) := by
  by_cases h : n < 5
  · exact Or.inl ⟨nI_lt (b := 5) h (by decide), h⟩
  · exact Or.inr ⟨nI_nlt (b := 5) (by omega) (by omega), by omega⟩
theorem lt4' {n : Nat} (hn : n ≤ 4) : (nI n < 4 ∧ n < 4) ∨ (¬ nI n < 4 ∧ n = 4) := by
  by_cases h : n < 4
  · exact Or.inl ⟨nI_lt (b := 4) h (by decide), h⟩
  · exact Or.inr ⟨nI_nlt (b := 4) (by omega) (by omega), by omega⟩
set_option maxHeartbeats 1000000 in
theorem s_column (hfl : l.flags = pinnedFlags ++ [noTraceFlag]) : st_column l pR := by
  intro σ μ h x y D cI cL cZ cJ ad am o fj
  obtain ⟨n, r, u, hL, hS⟩ := id h
  obtain ⟨ha, hb, hc, hd, he, hf⟩ := pL_iff.mp hL
  obtain ⟨hn, hr, hu, e1, e2, e3, e4, e5, e6⟩ := id ha
  rcases pc_iff (x := x) (a := -1000) (b := 1000) with ⟨x1, x2, x3⟩ | ⟨x1, x2⟩
  · rcases pc_iff (x := y) (a := 0) (b := 20) with ⟨y1, y2, y3⟩ | ⟨y1, y2⟩
    · rcases lt5 hn with ⟨g1, g2⟩ | ⟨g1, g2⟩
      · refine ⟨_, _, _, 0, _, _, _, (by exact ⟨rfl, rfl, Nat.le_of_ble_eq_true rfl, Nat.le_of_ble_eq_true rfl⟩), w_column_0 σ e3 e5 hr hu e1 g2 x1 x2 y1 y2, (by exact ⟨rfl, rfl, Nat.le_of_ble_eq_true rfl, Nat.le_of_ble_eq_true rfl⟩), c_Mo_column μ e2 g2 x3 y3, ?_, fun _ => if_pos rfl, p_begin (n := n + 1) (pL_iff.mpr ⟨?_, ?_, ?_, ?_, ?_, ?_⟩)⟩
        · rw [mo_a_c (by decide), u3_c (by decide), u3_c (by decide), u3_c (by decide), u3_s]
        · exact ⟨by omega, hr, hu, by rw [u3_s], by rw [u3_s], by rw [u3_c (by decide), u3_c (by decide), u3_c (by decide)]; exact e3, by rw [u3_c (by decide), u3_c (by decide), u3_c (by decide), u3_c (by decide)]; exact e4, by rw [u3_c (by decide), u3_c (by decide), u3_c (by decide)]; exact e5, by rw [u3_c (by decide), u3_c (by decide), u3_c (by decide), u3_c (by decide)]; exact e6⟩
        · rw [Int32.lt_iff_toInt_lt] at x1 y1
          rw [Int32.le_iff_toInt_le] at x2 y2
          have c1 : (-1000 : Int32).toInt = -1000 := by decide
          have c2 : (1000 : Int32).toInt = 1000 := by decide
          have c3 : (0 : Int32).toInt = 0 := by decide
          have c4 : (20 : Int32).toInt = 20 := by decide
          rw [c1] at x1; rw [c2] at x2; rw [c3] at y1; rw [c4] at y2
          have f0 : ∀ k, u3 (u3 (u3 σ 0 0 n x) 1 0 n y) 2 0 0 (nI (n + 1)) 0 0 k = if k = n then x else σ 0 0 k := fun k => by rw [u3_c (by decide), u3_c (by decide), u3_at]; simp
          have f1 : ∀ k, u3 (u3 (u3 σ 0 0 n x) 1 0 n y) 2 0 0 (nI (n + 1)) 1 0 k = if k = n then y else σ 1 0 k := fun k => by rw [u3_c (by decide), u3_at, u3_c (by decide)]; simp
          have m0 : ∀ k, u3 (u3 (u3 (u3 μ 0 0 0 0) 10 0 n x) 11 0 n y) 1 0 0 (nI (n + 1)) 10 0 k = if k = n then x else μ 10 0 k := fun k => by rw [u3_c (by decide), u3_c (by decide), u3_at, u3_c (by decide)]; simp
          have m1 : ∀ k, u3 (u3 (u3 (u3 μ 0 0 0 0) 10 0 n x) 11 0 n y) 1 0 0 (nI (n + 1)) 11 0 k = if k = n then y else μ 11 0 k := fun k => by rw [u3_c (by decide), u3_at, u3_c (by decide), u3_c (by decide)]; simp
          refine ⟨by funext k; rw [f0, m0, hb.1], by funext k; rw [f1, m1, hb.2.1], fun k => ?_⟩
          rw [f0, f1]
          have := hb.2.2 k
          by_cases hk : k = n
          · rw [if_pos hk, if_pos hk]; omega
          · rw [if_neg hk, if_neg hk]; exact this
        · exact pLc_of hc (fun c hc => by rw [u3_c (by rintro rfl; simp at hc), u3_c (by rintro rfl; simp at hc), u3_c (by rintro rfl; simp at hc)]) (fun c hc => by rw [u3_c (by rintro rfl; simp at hc), u3_c (by rintro rfl; simp at hc), u3_c (by rintro rfl; simp at hc), u3_c (by rintro rfl; simp at hc)])
        · have k15 : u3 (u3 (u3 (u3 μ 0 0 0 0) 10 0 n x) 11 0 n y) 1 0 0 (nI (n + 1)) 15 = μ 15 := by rw [u3_c (by decide), u3_c (by decide), u3_c (by decide), u3_c (by decide)]
          have k16 : u3 (u3 (u3 (u3 μ 0 0 0 0) 10 0 n x) 11 0 n y) 1 0 0 (nI (n + 1)) 16 = μ 16 := by rw [u3_c (by decide), u3_c (by decide), u3_c (by decide), u3_c (by decide)]
          refine ⟨mo_ok_of k15 k16 hd.1, fun k hk => ?_⟩
          obtain ⟨q1, q2, q3, q4⟩ := hd.2 k hk
          have kA : mo_A (u3 (u3 (u3 (u3 μ 0 0 0 0) 10 0 n x) 11 0 n y) 1 0 0 (nI (n + 1))) k = mo_A μ k := by unfold mo_A; rw [k15]
          have kB : mo_B (u3 (u3 (u3 (u3 μ 0 0 0 0) 10 0 n x) 11 0 n y) 1 0 0 (nI (n + 1))) k = mo_B μ k := by unfold mo_B; rw [k16]
          have m1 : ∀ k, k ≠ n → u3 (u3 (u3 (u3 μ 0 0 0 0) 10 0 n x) 11 0 n y) 1 0 0 (nI (n + 1)) 11 0 k = μ 11 0 k := fun k hk => by rw [u3_c (by decide), u3_j hk, u3_c (by decide), u3_c (by decide)]
          refine ⟨by rw [kA]; omega, by rw [kB]; omega, by rw [kA, kB]; exact q3, ?_⟩
          rw [u3_c (by decide), u3_c (by decide), u3_c (by decide), q4]
          rw [mo_r0, mo_r0, kA, kB, m1 _ (by omega), m1 _ (by omega)]
        · exact pLe_of he (fun c hc => by rw [u3_c (by rintro rfl; simp at hc), u3_c (by rintro rfl; simp at hc), u3_c (by rintro rfl; simp at hc)]) (fun c hc => by rw [u3_c (by rintro rfl; simp at hc), u3_c (by rintro rfl; simp at hc), u3_c (by rintro rfl; simp at hc), u3_c (by rintro rfl; simp at hc)])
        · have := pLf_of (σ' := u3 (u3 (u3 σ 0 0 n x) 1 0 n y) 2 0 0 (nI (n + 1))) (μ' := u3 (u3 (u3 (u3 μ 0 0 0 0) 10 0 n x) 11 0 n y) 1 0 0 (nI (n + 1))) hf (fun c hc => by rw [u3_c (by rintro rfl; simp at hc), u3_c (by rintro rfl; simp at hc), u3_c (by rintro rfl; simp at hc)]) (fun c hc => by rw [u3_c (by rintro rfl; simp at hc), u3_c (by rintro rfl; simp at hc), u3_c (by rintro rfl; simp at hc), u3_c (by rintro rfl; simp at hc)])
          exact ⟨this.1, fun a b ha hb => ⟨(this.2 a b ha hb).1, fun q => by obtain ⟨q1, q2, q3⟩ := (this.2 a b ha hb).2 q; exact ⟨by omega, by omega, q3⟩⟩⟩
      · exact ⟨_, _, _, 2, σ, _, _, (by exact ⟨rfl, rfl, Nat.le_of_ble_eq_true rfl, Nat.le_of_ble_eq_true rfl⟩), w_column_2 hfl σ x1 x2 y1 y2 (by rw [e1]; exact g1), (by exact ⟨rfl, rfl, Nat.le_of_ble_eq_true rfl, Nat.le_of_ble_eq_true rfl⟩), c_Mo_column_2 μ (by rw [e2, g2]) x3 y3, u3_s, fun q => absurd q (by decide), pR_thr h⟩
    · exact ⟨_, _, _, 1, σ, _, _, (by exact ⟨rfl, rfl, Nat.le_of_ble_eq_true rfl, Nat.le_of_ble_eq_true rfl⟩), w_column_1 hfl σ (fun q => y1 ⟨q.2.2.1, q.2.2.2⟩), (by exact ⟨rfl, rfl, Nat.le_of_ble_eq_true rfl, Nat.le_of_ble_eq_true rfl⟩), c_Mo_column_1 μ (Or.inr y2), u3_s, fun q => absurd q (by decide), pR_thr h⟩
  · exact ⟨_, _, _, 1, σ, _, _, (by exact ⟨rfl, rfl, Nat.le_of_ble_eq_true rfl, Nat.le_of_ble_eq_true rfl⟩), w_column_1 hfl σ (fun q => x1 ⟨q.1, q.2.1⟩), (by exact ⟨rfl, rfl, Nat.le_of_ble_eq_true rfl, Nat.le_of_ble_eq_true rfl⟩), c_Mo_column_1 μ (Or.inl x2), u3_s, fun q => absurd q (by decide), pR_thr h⟩
end
