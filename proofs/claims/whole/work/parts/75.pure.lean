/-! PURE: row, factor, right, cut -/
section
variable {l : Launch} {σ μ : oS} {n r u : Nat}
theorem ls_z_0 {m k : Nat} (hr : r ≤ 4) (hk : k < m) : ls_z σ r m 6 (ls_i r k) 0 = 0 := by
  induction m with
  | zero => omega
  | succ m ih =>
    rw [ls_z]
    by_cases e : k = m
    · subst e; rw [u3_s]
    · rw [u3_i (fun q => e (ls_i_inj hr q))]
      exact ih (by omega)
theorem mo_z_0 {m k : Nat} (hk : k < m) : mo_z μ m 17 0 k = 0 := by
  induction m with
  | zero => omega
  | succ m ih =>
    rw [mo_z]
    by_cases e : k = m
    · subst e; rw [u3_s]
    · rw [u3_j e]
      exact ih (by omega)
set_option maxHeartbeats 1000000 in
theorem s_row (hfl : l.flags = pinnedFlags ++ [noTraceFlag]) : st_row l pR := by
  intro σ μ h x y D cI cL cZ cJ ad am o fj
  obtain ⟨n, r, u, hL, hS⟩ := id h
  obtain ⟨ha, hb, hc, hd, he, hf⟩ := pL_iff.mp hL
  obtain ⟨hn, hr, hu, e1, e2, e3, e4, e5, e6⟩ := id ha
  rcases pc_01 (x := x) with ⟨x1, x2⟩ | ⟨x1, x2⟩
  · rcases pc_v (x := y) with ⟨y1, y2⟩ | ⟨y1, y2⟩
    · rcases lt4' hr with ⟨g1, g2⟩ | ⟨g1, g2⟩
      · refine ⟨_, _, _, 0, _, _, _, (by exact ⟨rfl, rfl, Nat.le_of_ble_eq_true rfl, Nat.le_of_ble_eq_true rfl⟩), w_row_0 σ e3 e5 hr hu e1 hn g2 x1 y1, (by exact ⟨rfl, rfl, Nat.le_of_ble_eq_true rfl, Nat.le_of_ble_eq_true rfl⟩), c_Mo_row μ e4 g2 x2 y2, ?_, fun _ => if_pos rfl, p_begin (r := r + 1) (pL_iff.mpr ⟨?_, ?_, ?_, ?_, ?_, ?_⟩)⟩
        · rw [mo_a_c (by decide), mo_z_c (by decide), u3_c (by decide), u3_c (by decide), u3_c (by decide), u3_s]
        · exact ⟨hn, by omega, hu, by rw [ls_z_c (by decide), u3_c (by decide), u3_c (by decide), u3_c (by decide)]; exact e1, by rw [mo_z_c (by decide), u3_c (by decide), u3_c (by decide), u3_c (by decide), u3_c (by decide)]; exact e2, by rw [ls_z_c (by decide), u3_s], by rw [mo_z_c (by decide), u3_s], by rw [ls_z_c (by decide), u3_c (by decide), u3_c (by decide), u3_c (by decide)]; exact e5, by rw [mo_z_c (by decide), u3_c (by decide), u3_c (by decide), u3_c (by decide), u3_c (by decide)]; exact e6⟩
        · exact pLb_of hb (fun c hc => by rw [ls_z_c (by rintro rfl; simp at hc), u3_c (by rintro rfl; simp at hc), u3_c (by rintro rfl; simp at hc), u3_c (by rintro rfl; simp at hc)]) (fun c hc => by rw [mo_z_c (by rintro rfl; simp at hc), u3_c (by rintro rfl; simp at hc), u3_c (by rintro rfl; simp at hc), u3_c (by rintro rfl; simp at hc), u3_c (by rintro rfl; simp at hc)])
        · intro k hk
          obtain ⟨q1, q2, q3, q4⟩ := hc k hk
          have s4 : ls_z (u3 (u3 (u3 σ 4 r 0 x) 5 r 0 y) 9 0 0 (nI (r + 1))) (r + 1) (r + 1 + u) 4 = u3 σ 4 r 0 x 4 := by rw [ls_z_c (by decide), u3_c (by decide), u3_c (by decide)]
          have s5 : ls_z (u3 (u3 (u3 σ 4 r 0 x) 5 r 0 y) 9 0 0 (nI (r + 1))) (r + 1) (r + 1 + u) 5 = u3 (u3 σ 4 r 0 x) 5 r 0 y 5 := by rw [ls_z_c (by decide), u3_c (by decide)]
          have s3 : ls_z (u3 (u3 (u3 σ 4 r 0 x) 5 r 0 y) 9 0 0 (nI (r + 1))) (r + 1) (r + 1 + u) 3 = σ 3 := by rw [ls_z_c (by decide), u3_c (by decide), u3_c (by decide), u3_c (by decide)]
          have m12 : mo_z (u3 (u3 (u3 (u3 μ 0 0 0 0) 12 0 r x) 13 0 r y) 2 0 0 (nI (r + 1))) 8 12 = u3 (u3 μ 0 0 0 0) 12 0 r x 12 := by rw [mo_z_c (by decide), u3_c (by decide), u3_c (by decide)]
          have m13 : mo_z (u3 (u3 (u3 (u3 μ 0 0 0 0) 12 0 r x) 13 0 r y) 2 0 0 (nI (r + 1))) 8 13 = u3 (u3 (u3 μ 0 0 0 0) 12 0 r x) 13 0 r y 13 := by rw [mo_z_c (by decide), u3_c (by decide)]
          have mm : ∀ c, c ∈ [14, 15, 16] → mo_z (u3 (u3 (u3 (u3 μ 0 0 0 0) 12 0 r x) 13 0 r y) 2 0 0 (nI (r + 1))) 8 c = μ c := fun c hc => by rw [mo_z_c (by rintro rfl; simp at hc), u3_c (by rintro rfl; simp at hc), u3_c (by rintro rfl; simp at hc), u3_c (by rintro rfl; simp at hc), u3_c (by rintro rfl; simp at hc)]
          rw [s4, s5, s3, m12, m13, mm 14 (by decide)]
          refine ⟨?_, ?_, ?_, fun j hj => ⟨(q4 j hj).1, ?_⟩⟩
          · by_cases e : k = r
            · subst e; rw [u3_s, u3_s]
            · rw [u3_i e, u3_j e, u3_c (by decide)]; exact q1
          · by_cases e : k = r
            · subst e; rw [u3_s, u3_s]
            · rw [u3_i e, u3_j e, u3_c (by decide), u3_c (by decide), u3_c (by decide)]; exact q2
          · rw [u3_i (by omega)]; exact q3
          · rw [(q4 j hj).2, mo_f0, mo_f0, mm 15 (by decide), mm 16 (by decide)]
        · have mm : ∀ c, c ∈ [11, 15, 16] → mo_z (u3 (u3 (u3 (u3 μ 0 0 0 0) 12 0 r x) 13 0 r y) 2 0 0 (nI (r + 1))) 8 c = μ c := fun c hc => by rw [mo_z_c (by rintro rfl; simp at hc), u3_c (by rintro rfl; simp at hc), u3_c (by rintro rfl; simp at hc), u3_c (by rintro rfl; simp at hc), u3_c (by rintro rfl; simp at hc)]
          refine ⟨mo_ok_of (mm 15 (by decide)) (mm 16 (by decide)) hd.1, fun k hk => ?_⟩
          obtain ⟨q1, q2, q3, q4⟩ := hd.2 k hk
          rw [mo_r0]
          unfold mo_A mo_B at *
          rw [mm 15 (by decide), mm 16 (by decide), mm 11 (by decide), ls_z_c (by decide), u3_c (by decide), u3_i (by omega), u3_c (by decide)]
          refine ⟨q1, q2, q3, q4.trans ?_⟩
          rw [mo_r0]
          rfl
        · intro k hk
          rw [ls_z_0 (by omega) (by omega), mo_z_0 (by omega)]
        · exact pLf_of hf (fun c hc => by rw [ls_z_c (by rintro rfl; simp at hc), u3_c (by rintro rfl; simp at hc), u3_c (by rintro rfl; simp at hc), u3_c (by rintro rfl; simp at hc)]) (fun c hc => by rw [mo_z_c (by rintro rfl; simp at hc), u3_c (by rintro rfl; simp at hc), u3_c (by rintro rfl; simp at hc), u3_c (by rintro rfl; simp at hc), u3_c (by rintro rfl; simp at hc)])
      · exact ⟨_, _, _, 2, σ, _, _, (by exact ⟨rfl, rfl, Nat.le_of_ble_eq_true rfl, Nat.le_of_ble_eq_true rfl⟩), w_row_2 hfl σ x1 y1 (by rw [e3]; exact g1), (by exact ⟨rfl, rfl, Nat.le_of_ble_eq_true rfl, Nat.le_of_ble_eq_true rfl⟩), c_Mo_row_2 μ (by rw [e4, g2]) x2 y2, u3_s, fun q => absurd q (by decide), pR_thr h⟩
    · exact ⟨_, _, _, 1, σ, _, _, (by exact ⟨rfl, rfl, Nat.le_of_ble_eq_true rfl, Nat.le_of_ble_eq_true rfl⟩), w_row_1 hfl σ (fun q => y1 q.2), (by exact ⟨rfl, rfl, Nat.le_of_ble_eq_true rfl, Nat.le_of_ble_eq_true rfl⟩), c_Mo_row_1 μ (Or.inr y2), u3_s, fun q => absurd q (by decide), pR_thr h⟩
  · exact ⟨_, _, _, 1, σ, _, _, (by exact ⟨rfl, rfl, Nat.le_of_ble_eq_true rfl, Nat.le_of_ble_eq_true rfl⟩), w_row_1 hfl σ (fun q => x1 q.1), (by exact ⟨rfl, rfl, Nat.le_of_ble_eq_true rfl, Nat.le_of_ble_eq_true rfl⟩), c_Mo_row_1 μ (Or.inl x2), u3_s, fun q => absurd q (by decide), pR_thr h⟩
set_option maxHeartbeats 1000000 in
theorem s_factor (hfl : l.flags = pinnedFlags ++ [noTraceFlag]) : st_factor l pR := by
  intro σ μ h x y z D cI cL cZ cJ ad am o fj
  obtain ⟨n, r, u, hL, hS⟩ := id h
  obtain ⟨ha, hb, hc, hd, he, hf⟩ := pL_iff.mp hL
  obtain ⟨hn, hr, hu, e1, e2, e3, e4, e5, e6⟩ := id ha
  rcases pc_r hL x with ⟨x1, x2, k, hk, rfl⟩ | ⟨x1, x2⟩
  · rcases pc_c hL y with ⟨y1, y2, j, hj, rfl⟩ | ⟨y1, y2⟩
    · rcases pc_iff (x := z) (a := -10) (b := 10) with ⟨z1, z2, z3⟩ | ⟨z1, z2⟩
      · refine ⟨_, _, 0, _, _, (by exact ⟨rfl, rfl, Nat.le_of_ble_eq_true rfl, Nat.le_of_ble_eq_true rfl⟩), w_factor_0 σ e3 e5 hr hu e1 hn rfl (by omega) rfl (by omega) hk x1 y1 z1 z2, (by exact ⟨rfl, rfl, Nat.le_of_ble_eq_true rfl, Nat.le_of_ble_eq_true rfl⟩), c_Mo_factor μ rfl (by omega) rfl (by omega) x2 y2 z3, ?_, p_begin (pL_iff.mpr ⟨?_, ?_, ?_, ?_, ?_, ?_⟩)⟩
        · rw [mo_a_c (by decide), u3_c (by decide), u3_s]
        · exact pLa_of ha (fun c hc => by rw [u3_c (by rintro rfl; simp at hc)]) (fun c hc => by rw [u3_c (by rintro rfl; simp at hc), u3_c (by rintro rfl; simp at hc)])
        · exact pLb_of hb (fun c hc => by rw [u3_c (by rintro rfl; simp at hc)]) (fun c hc => by rw [u3_c (by rintro rfl; simp at hc), u3_c (by rintro rfl; simp at hc)])
        · intro k' hk'
          obtain ⟨q1, q2, q3, q4⟩ := hc k' hk'
          have ei : ls_i r k = k := if_pos hk
          rw [ei, u3_c (show (4 : Nat) ≠ 3 by decide), u3_c (show (5 : Nat) ≠ 3 by decide), u3_c (show (12 : Nat) ≠ 14 by decide), u3_c (show (12 : Nat) ≠ 0 by decide), u3_c (show (13 : Nat) ≠ 14 by decide), u3_c (show (13 : Nat) ≠ 0 by decide)]
          refine ⟨q1, q2, q3, fun j' hj' => ⟨?_, ?_⟩⟩
          · by_cases e : k' = k
            · subst e
              by_cases e2 : j' = j
              · subst e2; rw [u3_s, u3_s]
              · rw [u3_j e2, u3_j (by omega), u3_c (by decide)]; exact (q4 j' hj').1
            · rw [u3_i e, u3_j (by omega), u3_c (by decide)]; exact (q4 j' hj').1
          · rw [u3_i (by omega), (q4 j' hj').2, mo_f0, mo_f0, u3_c (show (15 : Nat) ≠ 14 by decide), u3_c (show (15 : Nat) ≠ 0 by decide), u3_c (show (16 : Nat) ≠ 14 by decide), u3_c (show (16 : Nat) ≠ 0 by decide)]
        · exact pLd_of hd (fun c hc => by rw [u3_c (by rintro rfl; simp at hc)]) (fun c hc => by rw [u3_c (by rintro rfl; simp at hc), u3_c (by rintro rfl; simp at hc)])
        · exact pLe_of he (fun c hc => by rw [u3_c (by rintro rfl; simp at hc)]) (fun c hc => by rw [u3_c (by rintro rfl; simp at hc), u3_c (by rintro rfl; simp at hc)])
        · exact pLf_of hf (fun c hc => by rw [u3_c (by rintro rfl; simp at hc)]) (fun c hc => by rw [u3_c (by rintro rfl; simp at hc), u3_c (by rintro rfl; simp at hc)])
      · exact ⟨_, _, 2, σ, _, (by exact ⟨rfl, rfl, Nat.le_of_ble_eq_true rfl, Nat.le_of_ble_eq_true rfl⟩), w_factor_2 hfl σ x1 y1 z1, (by exact ⟨rfl, rfl, Nat.le_of_ble_eq_true rfl, Nat.le_of_ble_eq_true rfl⟩), c_Mo_factor_2 μ x2 y2 z2, u3_s, pR_thr h⟩
    · exact ⟨_, _, 1, σ, _, (by exact ⟨rfl, rfl, Nat.le_of_ble_eq_true rfl, Nat.le_of_ble_eq_true rfl⟩), w_factor_1 hfl σ (fun q => y1 q.2), (by exact ⟨rfl, rfl, Nat.le_of_ble_eq_true rfl, Nat.le_of_ble_eq_true rfl⟩), c_Mo_factor_1 μ (Or.inr y2), u3_s, pR_thr h⟩
  · exact ⟨_, _, 1, σ, _, (by exact ⟨rfl, rfl, Nat.le_of_ble_eq_true rfl, Nat.le_of_ble_eq_true rfl⟩), w_factor_1 hfl σ (fun q => x1 q.1), (by exact ⟨rfl, rfl, Nat.le_of_ble_eq_true rfl, Nat.le_of_ble_eq_true rfl⟩), c_Mo_factor_1 μ (Or.inl x2), u3_s, pR_thr h⟩
set_option maxHeartbeats 1000000 in
theorem s_right (hfl : l.flags = pinnedFlags ++ [noTraceFlag]) : st_right l pR := by
  intro σ μ h x y D cI cL cZ cJ ad am o fj
  obtain ⟨n, r, u, hL, hS⟩ := id h
  obtain ⟨ha, hb, hc, hd, he, hf⟩ := pL_iff.mp hL
  obtain ⟨hn, hr, hu, e1, e2, e3, e4, e5, e6⟩ := id ha
  rcases pc_r hL x with ⟨x1, x2, k, hk, rfl⟩ | ⟨x1, x2⟩
  · rcases pc_v (x := y) with ⟨y1, y2⟩ | ⟨y1, y2⟩
    · refine ⟨_, _, 0, _, _, (by exact ⟨rfl, rfl, Nat.le_of_ble_eq_true rfl, Nat.le_of_ble_eq_true rfl⟩), w_right_0 σ e3 e5 hr hu e1 hn rfl (by omega) hk x1 y1, (by exact ⟨rfl, rfl, Nat.le_of_ble_eq_true rfl, Nat.le_of_ble_eq_true rfl⟩), c_Mo_right μ rfl (by omega) x2 y2, ?_, p_begin (pL_iff.mpr ⟨?_, ?_, ?_, ?_, ?_, ?_⟩)⟩
      · rw [mo_a_c (by decide), u3_c (by decide), u3_s]
      · exact pLa_of ha (fun c hc => by rw [u3_c (by rintro rfl; simp at hc)]) (fun c hc => by rw [u3_c (by rintro rfl; simp at hc), u3_c (by rintro rfl; simp at hc)])
      · exact pLb_of hb (fun c hc => by rw [u3_c (by rintro rfl; simp at hc)]) (fun c hc => by rw [u3_c (by rintro rfl; simp at hc), u3_c (by rintro rfl; simp at hc)])
      · intro k' hk'
        obtain ⟨q1, q2, q3, q4⟩ := hc k' hk'
        have ei : ls_i r k = k := if_pos hk
        rw [ei, u3_c (show (4 : Nat) ≠ 5 by decide), u3_c (show (3 : Nat) ≠ 5 by decide), u3_c (show (12 : Nat) ≠ 13 by decide), u3_c (show (12 : Nat) ≠ 0 by decide), u3_c (show (14 : Nat) ≠ 13 by decide), u3_c (show (14 : Nat) ≠ 0 by decide)]
        refine ⟨q1, ?_, q3, fun j' hj' => ⟨(q4 j' hj').1, ?_⟩⟩
        · by_cases e : k' = k
          · subst e; rw [u3_s, u3_s]
          · rw [u3_i e, u3_j e, u3_c (by decide)]; exact q2
        · rw [(q4 j' hj').2, mo_f0, mo_f0, u3_c (show (15 : Nat) ≠ 13 by decide), u3_c (show (15 : Nat) ≠ 0 by decide), u3_c (show (16 : Nat) ≠ 13 by decide), u3_c (show (16 : Nat) ≠ 0 by decide)]
      · have mm : ∀ c, c ∈ [11, 15, 16] → u3 (u3 μ 0 0 0 0) 13 0 k y c = μ c := fun c hc => by rw [u3_c (by rintro rfl; simp at hc), u3_c (by rintro rfl; simp at hc)]
        refine ⟨mo_ok_of (mm 15 (by decide)) (mm 16 (by decide)) hd.1, fun k' hk' => ?_⟩
        obtain ⟨q1, q2, q3, q4⟩ := hd.2 k' hk'
        have ei : ls_i r k = k := if_pos hk
        rw [mo_r0]
        unfold mo_A mo_B at *
        rw [mm 15 (by decide), mm 16 (by decide), mm 11 (by decide), ei, u3_i (by omega)]
        refine ⟨q1, q2, q3, q4.trans ?_⟩
        rw [mo_r0]
        rfl
      · exact pLe_of he (fun c hc => by rw [u3_c (by rintro rfl; simp at hc)]) (fun c hc => by rw [u3_c (by rintro rfl; simp at hc), u3_c (by rintro rfl; simp at hc)])
      · exact pLf_of hf (fun c hc => by rw [u3_c (by rintro rfl; simp at hc)]) (fun c hc => by rw [u3_c (by rintro rfl; simp at hc), u3_c (by rintro rfl; simp at hc)])
    · exact ⟨_, _, 2, σ, _, (by exact ⟨rfl, rfl, Nat.le_of_ble_eq_true rfl, Nat.le_of_ble_eq_true rfl⟩), w_right_2 hfl σ x1 y1, (by exact ⟨rfl, rfl, Nat.le_of_ble_eq_true rfl, Nat.le_of_ble_eq_true rfl⟩), c_Mo_right_2 μ x2 y2, u3_s, pR_thr h⟩
  · exact ⟨_, _, 1, σ, _, (by exact ⟨rfl, rfl, Nat.le_of_ble_eq_true rfl, Nat.le_of_ble_eq_true rfl⟩), w_right_1 hfl σ x1, (by exact ⟨rfl, rfl, Nat.le_of_ble_eq_true rfl, Nat.le_of_ble_eq_true rfl⟩), c_Mo_right_1 μ x2, u3_s, pR_thr h⟩
end
