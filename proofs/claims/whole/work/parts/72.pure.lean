/-! PURE: told, value, multiplier, follow -/
section
variable {l : Launch}
theorem pR_thr {σ μ : oS} {v : Int32} (h : pR σ μ) : pR σ (u3 μ 0 0 0 v) := pR_mu h (fun c h0 _ _ => u3_c h0)
set_option maxHeartbeats 1000000 in
theorem s_told (hfl : l.flags = pinnedFlags ++ [noTraceFlag]) : st_told l pR := by
  intro σ μ h x D cI cL cZ cJ ad am o fj
  obtain ⟨n, r, u, hL, ⟨⟨f1, f2, f3⟩, f4⟩, -⟩ := id h
  rcases pc_01 (x := x) with ⟨a, b⟩ | ⟨a, b⟩
  · by_cases hb : x = 1 ∨ ¬ σ 17 0 0 = 0
    · refine ⟨_, _, _, 0, σ, _, _, (by exact ⟨rfl, rfl, Nat.le_of_ble_eq_true rfl, Nat.le_of_ble_eq_true rfl⟩), w_told_0 σ f2 a hb, (by exact ⟨rfl, rfl, Nat.le_of_ble_eq_true rfl, Nat.le_of_ble_eq_true rfl⟩), c_Mo_told μ b (by rw [← f1]; exact hb), u3_s, fun _ => ?_, pR_thr h⟩
      rw [show vp_updL fj 0 (Int32.toInt64 (if x = 1 then σ 16 0 0 else σ 18 0 0)) 0 = Int32.toInt64 (if x = 1 then σ 16 0 0 else σ 18 0 0) from if_pos rfl]
      congr 1
      rcases a with rfl | rfl
      · rw [if_neg (by decide), if_pos rfl]
        exact (f4 (by rcases hb with q | q; exact absurd q (by decide); exact f2.resolve_left q)).1
      · rw [if_pos rfl, if_neg (by decide)]; exact f3
    · have h2 : ¬ x = 1 := fun q => hb (Or.inl q)
      have h3 : σ 17 0 0 = 0 := Classical.byContradiction fun q => hb (Or.inr q)
      exact ⟨_, _, _, 2, σ, _, _, (by exact ⟨rfl, rfl, Nat.le_of_ble_eq_true rfl, Nat.le_of_ble_eq_true rfl⟩), w_told_2 hfl σ f2 a h2 h3, (by exact ⟨rfl, rfl, Nat.le_of_ble_eq_true rfl, Nat.le_of_ble_eq_true rfl⟩), c_Mo_told_2 μ b h2 (by rw [← f1]; exact h3), u3_s, fun q => absurd q (by decide), pR_thr h⟩
  · exact ⟨_, _, _, 1, σ, _, _, (by exact ⟨rfl, rfl, Nat.le_of_ble_eq_true rfl, Nat.le_of_ble_eq_true rfl⟩), w_told_1 hfl σ a, (by exact ⟨rfl, rfl, Nat.le_of_ble_eq_true rfl, Nat.le_of_ble_eq_true rfl⟩), c_Mo_told_1 μ b, u3_s, fun q => absurd q (by decide), pR_thr h⟩
set_option maxHeartbeats 1000000 in
theorem s_value (hfl : l.flags = pinnedFlags ++ [noTraceFlag]) : st_value l pR := by
  intro σ μ h x D cI cL cZ cJ ad am o fj
  obtain ⟨n, r, u, hL, ⟨⟨f1, f2, f3⟩, f4⟩, -⟩ := id h
  rcases pc_c hL x with ⟨a, b, j, hj, rfl⟩ | ⟨a, b⟩
  · have hn := hL.1.1
    by_cases hb : σ 17 0 0 = 0
    · exact ⟨_, _, _, 2, σ, _, _, (by exact ⟨rfl, rfl, Nat.le_of_ble_eq_true rfl, Nat.le_of_ble_eq_true rfl⟩), w_value_2 hfl σ f2 a hb, (by exact ⟨rfl, rfl, Nat.le_of_ble_eq_true rfl, Nat.le_of_ble_eq_true rfl⟩), c_Mo_value_2 μ b (by rw [← f1]; exact hb), u3_s, fun q => absurd q (by decide), pR_thr h⟩
    · have h1 := f2.resolve_left hb
      refine ⟨_, _, _, 0, σ, _, _, (by exact ⟨rfl, rfl, Nat.le_of_ble_eq_true rfl, Nat.le_of_ble_eq_true rfl⟩), w_value_0 σ f2 rfl (by omega) a hb, (by exact ⟨rfl, rfl, Nat.le_of_ble_eq_true rfl, Nat.le_of_ble_eq_true rfl⟩), c_Mo_value μ rfl (by omega) b (by rw [← f1]; exact h1), u3_s, fun _ => ?_, pR_thr h⟩
      rw [show vp_updL fj 0 (Int32.toInt64 (σ 12 0 j)) 0 = Int32.toInt64 (σ 12 0 j) from if_pos rfl, (f4 h1).2 j hj]
  · exact ⟨_, _, _, 1, σ, _, _, (by exact ⟨rfl, rfl, Nat.le_of_ble_eq_true rfl, Nat.le_of_ble_eq_true rfl⟩), w_value_1 hfl σ a, (by exact ⟨rfl, rfl, Nat.le_of_ble_eq_true rfl, Nat.le_of_ble_eq_true rfl⟩), c_Mo_value_1 μ b, u3_s, fun q => absurd q (by decide), pR_thr h⟩
theorem pc_wv {σ μ : oS} {n r u k : Nat} (h : pL σ μ n r u) (hk : k < r + u) {y : Int32} : li_w σ (ls_i r k) y = mo_wv μ r k y := by
  unfold li_w mo_wv
  rw [pv_k h hk]
  split
  · rfl
  · unfold mo_in
    by_cases h1 : 0 < y
    · rw [if_pos h1]
      split
      · rfl
      · rfl
    · rw [if_neg h1, if_neg h1]
theorem li_w_1 {σ : oS} {i : Nat} {y : Int32} (h : ¬ li_w σ i y = 0) : li_w σ i y = 1 := by
  unfold li_w at h ⊢
  by_cases a : σ 4 i 0 = 0
  · rw [if_pos a] at h ⊢
    by_cases b : y < 0
    · rw [if_pos b] at h; exact absurd rfl h
    · rw [if_neg b] at h ⊢
      by_cases c : 1000000 < y
      · rw [if_pos c] at h; exact absurd rfl h
      · rw [if_neg c]
  · rw [if_neg a] at h ⊢
    by_cases b : 0 < y
    · rw [if_pos b] at h; exact absurd rfl h
    · rw [if_neg b] at h ⊢
      by_cases c : y < -1000000
      · rw [if_pos c] at h; exact absurd rfl h
      · rw [if_neg c]
set_option maxHeartbeats 1000000 in
theorem s_multiplier (hfl : l.flags = pinnedFlags ++ [noTraceFlag]) : st_multiplier l pR := by
  intro σ μ h x y D cI cL cZ cJ ad am o fj
  obtain ⟨n, r, u, hL, hS⟩ := id h
  obtain ⟨⟨hn, hr, hu, e1, e2, e3, e4, e5, e6⟩, hcol, hlin, hcut, hwei, hfol⟩ := id hL
  have es : σ 9 0 0 + σ 10 0 0 = nI (r + u) := ls_cnt e3 e5
  have em : μ 2 0 0 + μ 3 0 0 = nI (r + u) := mo_cnt e4 e6
  rcases pc_in (m := r + u) (by omega) x with ⟨a, b, c, k, hk, rfl⟩ | ⟨a, b⟩
  · by_cases hw : li_w σ (ls_i r k) y = 0
    · exact ⟨_, _, 2, σ, _, (by exact ⟨rfl, rfl, Nat.le_of_ble_eq_true rfl, Nat.le_of_ble_eq_true rfl⟩), w_multiplier_2 hfl σ e3 e5 hr hu rfl (by omega) hk a (by rw [es]; exact b) hw, (by exact ⟨rfl, rfl, Nat.le_of_ble_eq_true rfl, Nat.le_of_ble_eq_true rfl⟩), c_Mo_multiplier_2 μ e4 e6 hr hu rfl (by omega) hk (by rw [em]; exact c) (by rw [← pc_wv hL hk]; exact hw), u3_s, pR_thr h⟩
    · refine ⟨_, _, 0, _, _, (by exact ⟨rfl, rfl, Nat.le_of_ble_eq_true rfl, Nat.le_of_ble_eq_true rfl⟩), w_multiplier_0 σ e3 e5 hr hu rfl (by omega) hk a (by rw [es]; exact b) hw, (by exact ⟨rfl, rfl, Nat.le_of_ble_eq_true rfl, Nat.le_of_ble_eq_true rfl⟩), c_Mo_multiplier μ e4 e6 hr hu rfl (by omega) hk (by rw [em]; exact c) (by rw [← pc_wv hL hk]; exact li_w_1 hw), by rw [u3_c (by decide), u3_s], n, r, u, ?_, ?_⟩
      · have h9 := pL_of (σ' := u3 σ 6 (ls_i r k) 0 y) (μ' := u3 (u3 μ 0 0 0 0) 17 0 k y) (σ := u3 σ 6 (ls_i r k) 0 y) (μ := u3 (u3 μ 0 0 0 0) 17 0 k y) (n := n) (r := r) (u := u)
        have g : ∀ c, c ≠ 17 → c ≠ 0 → u3 (u3 μ 0 0 0 0) 17 0 k y c = μ c := fun c h1 h2 => by rw [u3_c h1, u3_c h2]
        have hL2 : pL σ (u3 μ 0 0 0 0) n r u := pL_of hL (fun _ _ => rfl) (fun c hc => u3_c (by rintro rfl; simp at hc))
        obtain ⟨q1, q2, q3, q4, q5, q6⟩ := hL2
        unfold pL mo_ok mo_r mo_f mo_A mo_B at *
        refine ⟨?_, ?_, ?_, ?_, fun k' hk' => ?_, ?_⟩
        · simp only [u3_c (show (2 : Nat) ≠ 6 by decide), u3_c (show (9 : Nat) ≠ 6 by decide), u3_c (show (10 : Nat) ≠ 6 by decide), u3_c (show (1 : Nat) ≠ 17 by decide), u3_c (show (2 : Nat) ≠ 17 by decide), u3_c (show (3 : Nat) ≠ 17 by decide)]; exact q1
        · simp only [u3_c (show (0 : Nat) ≠ 6 by decide), u3_c (show (1 : Nat) ≠ 6 by decide), u3_c (show (10 : Nat) ≠ 17 by decide), u3_c (show (11 : Nat) ≠ 17 by decide)]; exact q2
        · simp only [u3_c (show (3 : Nat) ≠ 6 by decide), u3_c (show (4 : Nat) ≠ 6 by decide), u3_c (show (5 : Nat) ≠ 6 by decide), u3_c (show (12 : Nat) ≠ 17 by decide), u3_c (show (13 : Nat) ≠ 17 by decide), u3_c (show (14 : Nat) ≠ 17 by decide), u3_c (show (15 : Nat) ≠ 17 by decide), u3_c (show (16 : Nat) ≠ 17 by decide)]; exact q3
        · simp only [u3_c (show (5 : Nat) ≠ 6 by decide), u3_c (show (11 : Nat) ≠ 17 by decide), u3_c (show (13 : Nat) ≠ 17 by decide), u3_c (show (15 : Nat) ≠ 17 by decide), u3_c (show (16 : Nat) ≠ 17 by decide)]; exact q4
        · by_cases hkk : k' = k
          · subst hkk; rw [u3_s, u3_s]
          · rw [u3_i (fun z => hkk (ls_i_inj hr z)), u3_j hkk]; exact q5 k' hk'
        · simp only [u3_c (show (20 : Nat) ≠ 6 by decide), u3_c (show (19 : Nat) ≠ 6 by decide), u3_c (show (4 : Nat) ≠ 17 by decide), u3_c (show (18 : Nat) ≠ 17 by decide)]; exact q6
      · exact pS_of hS (fun c hc => u3_c (by rintro rfl; simp at hc)) (fun c hc => by rw [u3_c (by rintro rfl; simp at hc), u3_c (by rintro rfl; simp at hc)])
  · exact ⟨_, _, 1, σ, _, (by exact ⟨rfl, rfl, Nat.le_of_ble_eq_true rfl, Nat.le_of_ble_eq_true rfl⟩), w_multiplier_1 hfl σ (by rw [es]; exact a), (by exact ⟨rfl, rfl, Nat.le_of_ble_eq_true rfl, Nat.le_of_ble_eq_true rfl⟩), c_Mo_multiplier_1 μ (by rw [em]; exact b), u3_s, pR_thr h⟩
end
