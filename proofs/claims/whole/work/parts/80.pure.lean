/-! PURE: run -/
section
variable {l : Launch}
theorem i_m1 : (-1 : Int32) = nI 0 - 1 := by decide
theorem ls_0_all {σ τ : oS} {n r u : Nat} (hL : pL σ τ n r u) : ∀ m, m ≤ r + u → ls_0 σ r m = mo_all τ r 0 0 m := by
  intro m
  induction m with
  | zero => intro _; rfl
  | succ m ih =>
    intro hm
    rw [ls_0, mo_all, ih (by omega), pv_h hL (by omega)]
    rfl
theorem se_0_c {σ : oS} {r u c : Nat} (h1 : c ≠ 15) (h2 : c ≠ 17) (h3 : c ≠ 18) : se_0 σ r u c = σ c := by
  unfold se_0
  rw [u3_c h1, u3_c h3, u3_c h2]
theorem se_0_15 {σ : oS} {r u : Nat} : se_0 σ r u 15 0 0 = -1 := by unfold se_0; rw [u3_s]
theorem se_0_18 {σ : oS} {r u : Nat} : se_0 σ r u 18 0 0 = 0 := by unfold se_0; rw [u3_c (by decide), u3_s]
theorem se_0_17 {σ : oS} {r u : Nat} : se_0 σ r u 17 0 0 = if ls_0 σ r (r + u) = true then 1 else 0 := by unfold se_0; rw [u3_c (by decide), u3_c (by decide), u3_s]
set_option maxHeartbeats 2000000 in
theorem s_run (hfl : l.flags = pinnedFlags ++ [noTraceFlag]) : st_run l pR := by
  intro σ μ h x D cI cL cZ cJ ad am o fj
  obtain ⟨n, r, u, hL, hS⟩ := id h
  obtain ⟨ha, hb, hc, hd, he, hf⟩ := pL_iff.mp hL
  obtain ⟨hn, hr, hu, e1, e2, e3, e4, e5, e6⟩ := id ha
  rcases pc_iff (x := x) (a := 0) (b := 100000) with ⟨x1, x2, x3⟩ | ⟨x1, x2⟩
  · obtain ⟨f, hf9, rfl⟩ := nI_of2 (M := 100000) (n := 100000) (by decide) x1 x2
    obtain ⟨hF, hH, hcase⟩ := hS
    have hfo := hF.1.2.1
    have hL0 := pL_thr (v := 0) hL
    have hF0 : pF σ (u3 μ 0 0 0 0) n := pF_of hF (fun _ _ => rfl) (fun c hc => u3_c (by rintro rfl; simp at hc))
    rcases hcase with ⟨h6, k, k1, k2, h15, h5, hK⟩ | ⟨h6, h15, hz⟩
    · by_cases hn0 : n = 0
      · subst hn0
        obtain ⟨rfl, h17⟩ := k2 rfl
        have eG : se_G σ 0 r u f = se_0 σ r u := by
          unfold se_G
          rw [if_pos rfl, se_g_end se_0_15]
        have ec : (mo_c (u3 μ 0 0 0 0) r u 0 0 = 0) ↔ ls_0 σ r (r + u) = true := by
          unfold mo_c
          rw [if_neg (fun q => q.1 (by rw [u3_c (by decide), ← hF.1.1]; exact h17)), ls_0_all hL0 (r + u) (Nat.le_refl _)]
          by_cases q : mo_all (u3 μ 0 0 0 0) r 0 0 (r + u) = true
          · rw [if_pos q]; exact ⟨fun _ => q, fun _ => rfl⟩
          · rw [if_neg q]; exact ⟨fun z => absurd z (by decide), fun z => absurd z q⟩
        have cw := w_run_0 (l := l) (D := D) (cI := cI) (cL := cL) (cJ := cJ) (ad := ad) (o := o) (fj := fj) σ e3 e5 hr hu e1 hn hfo (q := 1) (by rw [h15, nI_pred]) (fun q => absurd rfl q) (f := f) rfl (by omega) x1 x2
        rw [eG] at cw
        have q17 : se_0 σ r u 17 0 0 = (if mo_c (u3 μ 0 0 0 0) r u 0 0 = 0 then mo_q (u3 μ 0 0 0 0) 0 0 else u3 μ 0 0 0 0) 7 0 0 := by
          rw [se_0_17]
          by_cases q : mo_c (u3 μ 0 0 0 0) r u 0 0 = 0
          · rw [if_pos q, if_pos (ec.mp q)]
            unfold mo_q; rw [uA_n (by decide), u3_c (by decide), u3_s]
          · rw [if_neg q, if_neg (fun z => q (ec.mpr z)), u3_c (by decide), ← hF.1.1, h17]
        have tc : ∀ c, c ≠ 0 → c ≠ 6 → c ≠ 7 → c ≠ 9 → c ≠ 21 → u3 (if mo_c (u3 μ 0 0 0 0) r u 0 0 = 0 then mo_q (u3 μ 0 0 0 0) 0 0 else u3 μ 0 0 0 0) 6 0 0 1 c = μ c := by
          intro c c0 c6 c7 c9 c21
          rw [u3_c c6]
          split
          · rw [mo_q_c c7 c9 c21, u3_c c0]
          · rw [u3_c c0]
        refine ⟨_, _, _, 0, _, _, _, (by exact ⟨rfl, rfl, Nat.le_of_ble_eq_true rfl, Nat.le_of_ble_eq_true rfl⟩), cw, (by exact ⟨rfl, rfl, Nat.le_of_ble_eq_true rfl, Nat.le_of_ble_eq_true rfl⟩), c_Mo_run_0 μ e4 e6 hr hu e2 hd.1 (f := f) rfl (by omega) x3 h6, ?_, fun _ => ?_, 0, r, u, ?_, ⟨⟨?_, ?_, ?_⟩, fun q => ⟨?_, fun j hj => absurd hj (by omega)⟩⟩, ?_, Or.inr ⟨?_, se_0_15, fun _ => ⟨?_, se_0_18⟩⟩⟩
        · rw [u3_c (by decide)]
          split
          · rw [mo_q_c (by decide) (by decide) (by decide), u3_s]
          · rw [u3_s]
        · rw [show vp_updL fj 0 (Int32.toInt64 (se_r (se_0 σ r u))) 0 = Int32.toInt64 (se_r (se_0 σ r u)) from if_pos rfl]
          congr 1
          unfold se_r
          rw [se_0_15, if_pos (show (-1 : Int32) < 0 by decide), q17]
        · exact pL_of hL (fun c hc => se_0_c (by rintro rfl; simp at hc) (by rintro rfl; simp at hc) (by rintro rfl; simp at hc)) (fun c hc => tc c (by rintro rfl; simp at hc) (by rintro rfl; simp at hc) (by rintro rfl; simp at hc) (by rintro rfl; simp at hc) (by rintro rfl; simp at hc))
        · rw [u3_c (by decide)]; exact q17
        · rw [se_0_17]
          split
          · exact Or.inr rfl
          · exact Or.inl rfl
        · rw [se_0_c (by decide) (by decide) (by decide), tc 8 (by decide) (by decide) (by decide) (by decide) (by decide)]; exact hF.1.2.2
        · rw [q17] at q
          rw [se_0_18, u3_c (by decide)]
          by_cases w : mo_c (u3 μ 0 0 0 0) r u 0 0 = 0
          · rw [if_pos w]
            unfold mo_q; rw [uA_n (by decide), u3_s]; rfl
          · rw [if_neg w, u3_c (by decide), ← hF.1.1, h17] at q; exact absurd q (by decide)
        · exact pH_of hH (fun c hc => se_0_c (by rintro rfl; simp at hc) (by rintro rfl; simp at hc) (by rintro rfl; simp at hc))
        · rw [u3_s]; decide
        · rw [se_0_17, ls_0_of (se_0_c (by decide) (by decide) (by decide)) (se_0_c (by decide) (by decide) (by decide))]
      · have hk := k1 hn0
        have hN : pN n r u k σ (u3 μ 0 0 0 0) := ⟨hL0, hF0, hH, by rw [u3_c (by decide)]; exact h6, u3_s, h15, by rw [u3_c (by decide)]; exact h5, pK_of hK (fun _ _ => rfl) (fun c hc => u3_c (by rintro rfl; simp at hc))⟩
        obtain ⟨z1, z2, z3, z4⟩ := p_run hn0 hn hr f k σ _ hk hN
        have cw := w_run_0 (l := l) (D := D) (cI := cI) (cL := cL) (cJ := cJ) (ad := ad) (o := o) (fj := fj) σ e3 e5 hr hu e1 hn hfo (q := k + 1) (by rw [h15, nI_pred]) (fun _ => hk) (f := f) rfl (by omega) x1 x2
        have eG : se_G σ n r u f = se_g n r u f σ := by
          unfold se_G
          rw [if_neg hn0]
        rw [eG] at cw
        refine ⟨_, _, _, 0, _, _, _, (by exact ⟨rfl, rfl, Nat.le_of_ble_eq_true rfl, Nat.le_of_ble_eq_true rfl⟩), cw, (by exact ⟨rfl, rfl, Nat.le_of_ble_eq_true rfl, Nat.le_of_ble_eq_true rfl⟩), c_Mo_run_n μ e4 e6 hr hu e2 hn hd.1 (f := f) rfl (by omega) x3 h6 h5 hk, z4, fun _ => ?_, n, r, u, z1, z2⟩
        rw [show vp_updL fj 0 (Int32.toInt64 (se_r (se_g n r u f σ))) 0 = Int32.toInt64 (se_r (se_g n r u f σ)) from if_pos rfl, z3]
    · by_cases hn0 : n = 0
      · subst hn0
        obtain ⟨h17, h18⟩ := hz rfl
        have eG : se_G σ 0 r u f = se_0 σ r u := by
          unfold se_G
          rw [if_pos rfl, se_g_end se_0_15]
        have q17 : se_0 σ r u 17 0 0 = σ 17 0 0 := by rw [se_0_17, h17]
        have cw := w_run_0 (l := l) (D := D) (cI := cI) (cL := cL) (cJ := cJ) (ad := ad) (o := o) (fj := fj) σ e3 e5 hr hu e1 hn hfo (q := 0) (by rw [h15]; exact i_m1) (fun q => absurd rfl q) (f := f) rfl (by omega) x1 x2
        rw [eG] at cw
        refine ⟨_, _, _, 0, _, _, _, (by exact ⟨rfl, rfl, Nat.le_of_ble_eq_true rfl, Nat.le_of_ble_eq_true rfl⟩), cw, (by exact ⟨rfl, rfl, Nat.le_of_ble_eq_true rfl, Nat.le_of_ble_eq_true rfl⟩), c_Mo_run_e μ (f := f) rfl (by omega) x3 h6, u3_s, fun _ => ?_, 0, r, u, pL_of hL0 (fun c hc => se_0_c (by rintro rfl; simp at hc) (by rintro rfl; simp at hc) (by rintro rfl; simp at hc)) (fun _ _ => rfl), ⟨⟨?_, ?_, ?_⟩, fun q => ⟨?_, fun j hj => absurd hj (by omega)⟩⟩, pH_of hH (fun c hc => se_0_c (by rintro rfl; simp at hc) (by rintro rfl; simp at hc) (by rintro rfl; simp at hc)), Or.inr ⟨?_, se_0_15, fun _ => ⟨?_, se_0_18⟩⟩⟩
        · rw [show vp_updL fj 0 (Int32.toInt64 (se_r (se_0 σ r u))) 0 = Int32.toInt64 (se_r (se_0 σ r u)) from if_pos rfl]
          congr 1
          unfold se_r
          rw [se_0_15, if_pos (show (-1 : Int32) < 0 by decide), q17, hF.1.1]
        · rw [q17]; exact hF0.1.1
        · rw [q17]; exact hfo
        · rw [se_0_c (by decide) (by decide) (by decide)]; exact hF0.1.2.2
        · rw [q17] at q
          rw [se_0_18, ← (hF0.2 q).1, h18]
        · rw [u3_c (by decide)]; exact h6
        · rw [se_0_17, ls_0_of (se_0_c (by decide) (by decide) (by decide)) (se_0_c (by decide) (by decide) (by decide))]
      · have cw := w_run_0 (l := l) (D := D) (cI := cI) (cL := cL) (cJ := cJ) (ad := ad) (o := o) (fj := fj) σ e3 e5 hr hu e1 hn hfo (q := 0) (by rw [h15]; exact i_m1) (fun _ => Nat.zero_le _) (f := f) rfl (by omega) x1 x2
        have eG : se_G σ n r u f = σ := by
          unfold se_G
          rw [if_neg hn0, se_g_end h15]
        rw [eG] at cw
        refine ⟨_, _, _, 0, _, _, _, (by exact ⟨rfl, rfl, Nat.le_of_ble_eq_true rfl, Nat.le_of_ble_eq_true rfl⟩), cw, (by exact ⟨rfl, rfl, Nat.le_of_ble_eq_true rfl, Nat.le_of_ble_eq_true rfl⟩), c_Mo_run_e μ (f := f) rfl (by omega) x3 h6, u3_s, fun _ => ?_, pR_thr h⟩
        rw [show vp_updL fj 0 (Int32.toInt64 (se_r σ)) 0 = Int32.toInt64 (se_r σ) from if_pos rfl]
        congr 1
        unfold se_r
        rw [h15, if_pos (show (-1 : Int32) < 0 by decide), hF.1.1]
  · exact ⟨_, _, _, 1, σ, _, _, (by exact ⟨rfl, rfl, Nat.le_of_ble_eq_true rfl, Nat.le_of_ble_eq_true rfl⟩), w_run_1 hfl σ x1, (by exact ⟨rfl, rfl, Nat.le_of_ble_eq_true rfl, Nat.le_of_ble_eq_true rfl⟩), c_Mo_run_1 μ x2, u3_s, fun q => absurd q (by decide), pR_thr h⟩
end
