/-! PURE: run -/
section
variable {l : Launch} {σ τ : oS} {n r u k : Nat}
/-- both stand at column k, a number is to be given -/
def pN (n r u k : Nat) (σ τ : oS) : Prop := pL σ τ n r u ∧ pF σ τ n ∧ pH σ n r u ∧ τ 6 0 0 = 0 ∧ τ 0 0 0 = 0 ∧ σ 15 0 0 = nI k ∧ τ 5 0 0 = nI k ∧ pK σ τ r u k
/-- column k's number is done with -/
def pU (n r u k : Nat) (σ τ : oS) : Prop := pL σ τ n r u ∧ pF σ τ n ∧ pH σ n r u ∧ τ 6 0 0 = 0 ∧ τ 0 0 0 = 0 ∧ σ 15 0 0 = nI k ∧ τ 5 0 0 = nI k ∧
  (∀ j, j < k → σ 11 0 j = τ 20 0 j ∧ τ 19 0 j = τ 20 0 j ∧ 0 ≤ (σ 11 0 j).toInt) ∧ (τ 19 0 k = σ 11 0 k - 1 ∧ 0 ≤ (σ 11 0 k).toInt) ∧ (∀ j, j ≤ k → σ 13 0 j = pw σ j) ∧ ∀ i, i < r + u → ∀ j, j ≤ k → σ 7 (ls_i r i) j = ps σ (ls_i r i) j
def pZ (n r u : Nat) (σ : oS) (R : oS × Int32) : Prop := pL σ R.1 n r u ∧ pS σ R.1 n r u ∧ R.2 = se_r σ ∧ R.1 0 0 0 = 0
theorem mo_R_N (f : Nat) : ∃ K, mo_R n r u f = mo_N K := by
  cases f with
  | zero => exact ⟨_, rfl⟩
  | succ f => exact ⟨_, rfl⟩
theorem mo_N_go {K : Nat → oS → oS × Int32} (h : ¬ τ 19 0 k < 0) : mo_N K k τ = K k τ := by
  cases k with
  | zero => rw [mo_N, if_neg h]
  | succ k => rw [mo_N, if_neg h]
theorem pF_of {σ' τ' : oS} (h : pF σ τ n) (hσ : ∀ c, c ∈ [12, 16, 17, 18] → σ' c = σ c) (hτ : ∀ c, c ∈ [7, 8, 9, 21] → τ' c = τ c) : pF σ' τ' n := by
  unfold pF at *
  rw [hσ 12 (by decide), hσ 16 (by decide), hσ 17 (by decide), hσ 18 (by decide), hτ 7 (by decide), hτ 8 (by decide), hτ 9 (by decide), hτ 21 (by decide)]
  exact h
theorem i_pm1 {x : Int32} (h0 : 0 ≤ x.toInt) (h : ¬ x = 0) : 0 ≤ (x - 1).toInt ∧ ¬ x - 1 < 0 := by
  have hx : x.toInt ≠ 0 := fun q => h (Int32.toInt_inj.mp q)
  have e : (x - 1).toInt = x.toInt - 1 := by
    rw [Int32.toInt_sub, show (1 : Int32).toInt = 1 from rfl]
    have := Int32.toInt_lt x
    apply Int.bmod_eq_of_le <;> omega
  refine ⟨by omega, ?_⟩
  rw [Int32.lt_iff_toInt_lt, e, show (0 : Int32).toInt = 0 from rfl]
  omega
theorem i_nn {x : Int32} (h : 0 ≤ x.toInt) : ¬ x < 0 := by
  rw [Int32.lt_iff_toInt_lt, show (0 : Int32).toInt = 0 from rfl]
  omega
theorem se_g_end {f : Nat} (h : σ 15 0 0 = -1) : se_g n r u f σ = σ := by
  cases f with
  | zero => rfl
  | succ f =>
    rw [se_g, if_pos]
    unfold se_L
    rw [h]; decide
set_option maxHeartbeats 1000000 in
theorem p_norm {f : Nat} (hn0 : n ≠ 0) (ih : ∀ (k : Nat) (σ τ : oS), k < n → pN n r u k σ τ → pZ n r u (se_g n r u f σ) (mo_R n r u f k τ)) :
    ∀ (k : Nat) (σ τ : oS), k < n → pU n r u k σ τ → pZ n r u (se_g n r u f (se_n σ (k + 1))) (mo_R n r u f k τ) := by
  intro k
  induction k with
  | zero =>
    intro σ τ hk ⟨hL, hF, hH, h6, h0, h15, h5, hj, ⟨h19, hp⟩, h13, h7⟩
    rw [se_n]
    by_cases e : σ 11 0 0 = 0
    · rw [if_pos e, se_n]
      have e15 : u3 σ 15 0 0 (nI 0 - 1) 15 0 0 = -1 := by rw [u3_s]; decide
      rw [se_g_end e15]
      obtain ⟨K, hK⟩ := mo_R_N (n := n) (r := r) (u := u) f
      have eR : mo_R n r u f 0 τ = mo_E τ := by
        rw [hK, mo_N, if_pos]
        rw [h19, e]; decide
      rw [eR]
      unfold mo_E
      have g : ∀ c, c ≠ 5 → c ≠ 6 → u3 (u3 τ 5 0 0 (-1)) 6 0 0 1 c = τ c := fun c a b => by rw [u3_c b, u3_c a]
      refine ⟨pL_of hL (fun c hc => u3_c (by rintro rfl; simp at hc)) (fun c hc => g c (by rintro rfl; simp at hc) (by rintro rfl; simp at hc)), ⟨pF_of hF (fun c hc => u3_c (by rintro rfl; simp at hc)) (fun c hc => g c (by rintro rfl; simp at hc) (by rintro rfl; simp at hc)), pH_of hH (fun c hc => u3_c (by rintro rfl; simp at hc)), Or.inr ⟨?_, e15, fun q => absurd q hn0⟩⟩, ?_, ?_⟩
      · show ¬ u3 (u3 τ 5 0 0 (-1)) 6 0 0 1 6 0 0 = 0
        rw [u3_s]; decide
      · show (if τ 7 0 0 = 0 then (1 : Int32) else 0) = se_r _
        unfold se_r
        rw [e15, if_pos (show (-1 : Int32) < 0 by decide), u3_c (by decide), hF.1.1]
      · show u3 (u3 τ 5 0 0 (-1)) 6 0 0 1 0 0 0 = 0
        rw [g 0 (by decide) (by decide)]; exact h0
    · rw [if_neg e]
      obtain ⟨p1, p2⟩ := i_pm1 hp e
      refine ih 0 _ τ hk ⟨pL_of hL (fun c hc => u3_c (by rintro rfl; simp at hc)) (fun _ _ => rfl), pF_of hF (fun c hc => u3_c (by rintro rfl; simp at hc)) (fun _ _ => rfl), pH_of hH (fun c hc => u3_c (by rintro rfl; simp at hc)), h6, h0, by rw [u3_c (by decide)]; exact h15, h5, fun j h => absurd h (by omega), ⟨by rw [u3_s, h19], by rw [u3_s]; exact p1⟩, fun j hj' => ?_, fun i hi j hj' => ?_⟩
      · rw [show j = 0 by omega, u3_c (by decide)]; exact h13 0 (Nat.le_refl _)
      · rw [show j = 0 by omega, u3_c (by decide)]; exact h7 i hi 0 (Nat.le_refl _)
  | succ k ihk =>
    intro σ τ hk ⟨hL, hF, hH, h6, h0, h15, h5, hj, ⟨h19, hp⟩, h13, h7⟩
    rw [se_n]
    by_cases e : σ 11 0 (k + 1) = 0
    · rw [if_pos e]
      obtain ⟨K, hK⟩ := mo_R_N (n := n) (r := r) (u := u) f
      have eR : mo_R n r u f (k + 1) τ = mo_R n r u f k (u3 (u3 τ 5 0 0 (nI k)) 19 0 k (τ 19 0 k - 1)) := by
        rw [hK, mo_N, if_pos]
        rw [h19, e]; decide
      rw [eR]
      have g : ∀ c, c ≠ 5 → c ≠ 19 → u3 (u3 τ 5 0 0 (nI k)) 19 0 k (τ 19 0 k - 1) c = τ c := fun c a b => by rw [u3_c b, u3_c a]
      obtain ⟨j1, j2, j3⟩ := hj k (by omega)
      refine ihk _ _ (by omega) ⟨pL_of hL (fun c hc => u3_c (by rintro rfl; simp at hc)) (fun c hc => g c (by rintro rfl; simp at hc) (by rintro rfl; simp at hc)), pF_of hF (fun c hc => u3_c (by rintro rfl; simp at hc)) (fun c hc => g c (by rintro rfl; simp at hc) (by rintro rfl; simp at hc)), pH_of hH (fun c hc => u3_c (by rintro rfl; simp at hc)), by rw [g 6 (by decide) (by decide)]; exact h6, by rw [g 0 (by decide) (by decide)]; exact h0, by rw [u3_s, nI_pred], by rw [u3_c (by decide), u3_s], fun j hj' => ?_, ⟨?_, ?_⟩, fun j hj' => ?_, fun i hi j hj' => ?_⟩
      · rw [u3_c (by decide), g 20 (by decide) (by decide), u3_j (by omega), u3_c (by decide)]; exact hj j (by omega)
      · rw [u3_s, u3_c (by decide), j2, j1]
      · rw [u3_c (by decide)]; exact j3
      · rw [u3_c (by decide), pw_of (u3_c (by decide)) j (fun _ _ => by rw [u3_c (by decide)])]; exact h13 j (by omega)
      · rw [u3_c (by decide), ps_of (u3_c (by decide)) j (fun _ _ => by rw [u3_c (by decide)])]; exact h7 i hi j (by omega)
    · rw [if_neg e]
      obtain ⟨p1, p2⟩ := i_pm1 hp e
      refine ih (k + 1) _ τ hk ⟨pL_of hL (fun c hc => u3_c (by rintro rfl; simp at hc)) (fun _ _ => rfl), pF_of hF (fun c hc => u3_c (by rintro rfl; simp at hc)) (fun _ _ => rfl), pH_of hH (fun c hc => u3_c (by rintro rfl; simp at hc)), h6, h0, by rw [u3_c (by decide)]; exact h15, h5, fun j hj' => ?_, ⟨by rw [u3_s, h19], by rw [u3_s]; exact p1⟩, fun j hj' => ?_, fun i hi j hj' => ?_⟩
      · rw [u3_j (by omega)]; exact hj j hj'
      · rw [u3_c (by decide), pw_of (u3_c (by decide)) j (fun c hc => u3_j (by omega))]; exact h13 j hj'
      · rw [u3_c (by decide), ps_of (u3_c (by decide)) j (fun c hc => u3_j (by omega))]; exact h7 i hi j hj'
set_option maxHeartbeats 2000000 in
theorem p_run (hn0 : n ≠ 0) (hn : n ≤ 5) (hr : r ≤ 4) : ∀ (f k : Nat) (σ τ : oS), k < n → pN n r u k σ τ → pZ n r u (se_g n r u f σ) (mo_R n r u f k τ) := by
  intro f
  induction f with
  | zero =>
    intro k σ τ hk ⟨hL, hF, hH, h6, h0, h15, h5, hK⟩
    have e : mo_R n r u 0 k τ = (τ, 2) := by
      rw [mo_R, mo_N_go]
      rw [← hK.2.1.1]; exact i_nn hK.2.1.2
    rw [e]
    refine ⟨hL, ⟨hF, hH, Or.inl ⟨h6, k, fun _ => hk, fun q => absurd q hn0, h15, h5, hK⟩⟩, ?_, h0⟩
    show (2 : Int32) = se_r σ
    unfold se_r
    rw [h15, if_neg (nI_pos (by omega))]
  | succ f ih =>
    intro k σ τ hk hN
    obtain ⟨hL, hF, hH, h6, h0, h15, h5, hKK⟩ := id hN
    obtain ⟨hj, ⟨h19, hp⟩, h13, h7⟩ := id hKK
    have eL : se_L σ = k + 1 := se_L_of (q := k + 1) (by rw [h15, nI_pred]) (by omega)
    have eS : se_g n r u (f + 1) σ = se_g n r u f (se_s σ n r u k) := by
      rw [se_g, eL, if_neg (by omega), Nat.add_sub_cancel]
    have eT : mo_R n r u (f + 1) k τ = mo_T n r u (mo_R n r u f) k τ := by
      rw [mo_R, mo_N_go]
      rw [← h19]; exact i_nn hp
    rw [eS, eT]
    -- the states behind the number
    have t1 : ∀ c, c ≠ 8 → c ≠ 20 → mo_1 τ k c = τ c := fun c a b => mo_1_c a b
    have s1 : ∀ c, c ≠ 16 → c ≠ 13 → se_1 σ k c = σ c := fun c a b => se_1_c a b
    have t20 : ∀ j, mo_1 τ k 20 0 j = if j = k then τ 19 0 k else τ 20 0 j := fun j => by unfold mo_1; rw [u3_at, u3_c (by decide)]; simp
    have s13 : ∀ j, j ≠ k + 1 → se_1 σ k 13 0 j = σ 13 0 j := fun j hj' => by unfold se_1; rw [u3_j hj', u3_c (by decide)]
    have s13k : se_1 σ k 13 0 (k + 1) = σ 13 0 k + σ 0 0 k * σ 11 0 k := by unfold se_1; rw [u3_s]
    have e0 := s1 0 (by decide) (by decide)
    have e3 := s1 3 (by decide) (by decide)
    have e7 := s1 7 (by decide) (by decide)
    have e11 := s1 11 (by decide) (by decide)
    have hnum : ∀ j, j < k + 1 → σ 11 0 j = mo_1 τ k 20 0 j := fun j hj' => by
      rw [t20]
      by_cases e : j = k
      · rw [if_pos e, e]; exact h19
      · rw [if_neg e]; exact (hj j (by omega)).1
    have hL1 : pL (se_1 σ k) (mo_1 τ k) n r u := pL_of hL (fun c hc => s1 c (by rintro rfl; simp at hc) (by rintro rfl; simp at hc)) (fun c hc => t1 c (by rintro rfl; simp at hc) (by rintro rfl; simp at hc))
    have hF1 : pF (se_1 σ k) (mo_1 τ k) n := by
      unfold pF
      rw [s1 17 (by decide) (by decide), s1 18 (by decide) (by decide), s1 12 (by decide) (by decide), t1 7 (by decide) (by decide), t1 9 (by decide) (by decide), t1 21 (by decide) (by decide)]
      refine ⟨⟨hF.1.1, hF.1.2.1, ?_⟩, hF.2⟩
      unfold se_1 mo_1
      rw [u3_c (by decide), u3_s, u3_c (by decide), u3_s, hF.1.2.2]
    have hH1 : pH (se_1 σ k) n r u := pH_of hH (fun c hc => s1 c (by rintro rfl; simp at hc) (by rintro rfl; simp at hc))
    have hc := pk_c hL1 hF1 hH1 hk hn (fun j hj' => by rw [e11]; exact hnum j hj') (by rw [s13 k (by omega), pw_of e0 k (fun _ _ => by rw [e11])]; exact h13 k (Nat.le_refl _)) (fun i hi => by rw [e7, ps_of e3 k (fun _ _ => by rw [e11])]; exact h7 i hi k (Nat.le_refl _))
    rw [s13 k (by omega), e0, e11, se_w_1] at hc
    have hx := ls_x_spec (j := k) (y := σ 11 0 k) hr (r + u) 0 (se_1 σ k)
    have hxc : ∀ c, c ≠ 7 → (ls_x r k (σ 11 0 k) (r + u) 0 (se_1 σ k)).1 c = se_1 σ k c := fun c h => ls_x_c h
    have hU : ∀ Y T : oS, (∀ c, c ≠ 7 → c ≠ 12 → c ≠ 17 → c ≠ 18 → Y c = se_1 σ k c) → (∀ a b, b ≠ k + 1 → Y 7 a b = se_1 σ k 7 a b) → pF Y T n → (∀ c, c ≠ 19 → c ≠ 7 → c ≠ 9 → c ≠ 21 → T c = mo_1 τ k c) → (∀ j, T 19 0 j = if j = k then τ 19 0 k - 1 else τ 19 0 j) → pU n r u k Y T := by
      intro Y T y1 y2 y3 y4 y5
      have y11 : Y 11 = σ 11 := by rw [y1 11 (by decide) (by decide) (by decide) (by decide), e11]
      have y0 : Y 0 = σ 0 := by rw [y1 0 (by decide) (by decide) (by decide) (by decide), e0]
      have y33 : Y 3 = σ 3 := by rw [y1 3 (by decide) (by decide) (by decide) (by decide), e3]
      refine ⟨pL_of hL1 (fun c hc => y1 c (by rintro rfl; simp at hc) (by rintro rfl; simp at hc) (by rintro rfl; simp at hc) (by rintro rfl; simp at hc)) (fun c hc => y4 c (by rintro rfl; simp at hc) (by rintro rfl; simp at hc) (by rintro rfl; simp at hc) (by rintro rfl; simp at hc)), y3, pH_of hH1 (fun c hc => y1 c (by rintro rfl; simp at hc) (by rintro rfl; simp at hc) (by rintro rfl; simp at hc) (by rintro rfl; simp at hc)), ?_, ?_, ?_, ?_, fun j hj' => ?_, ⟨?_, ?_⟩, fun j hj' => ?_, fun i hi j hj' => ?_⟩
      · rw [y4 6 (by decide) (by decide) (by decide) (by decide), t1 6 (by decide) (by decide)]; exact h6
      · rw [y4 0 (by decide) (by decide) (by decide) (by decide), t1 0 (by decide) (by decide)]; exact h0
      · rw [y1 15 (by decide) (by decide) (by decide) (by decide), s1 15 (by decide) (by decide)]; exact h15
      · rw [y4 5 (by decide) (by decide) (by decide) (by decide), t1 5 (by decide) (by decide)]; exact h5
      · rw [y11, y4 20 (by decide) (by decide) (by decide) (by decide), t20, y5, if_neg (by omega), if_neg (by omega)]; exact hj j hj'
      · rw [y11, y5, if_pos rfl, h19]
      · rw [y11]; exact hp
      · rw [y1 13 (by decide) (by decide) (by decide) (by decide), s13 j (by omega), pw_of y0 j (fun _ _ => by rw [y11])]; exact h13 j hj'
      · rw [y2 _ _ (by omega), e7, ps_of y33 j (fun _ _ => by rw [y11])]; exact h7 i hi j hj'
    have norm := p_norm (f := f) hn0 ih
    unfold se_s mo_T
    by_cases c1 : se_w σ (σ 13 0 k + σ 0 0 k * σ 11 0 k + σ 14 0 (k + 1)) = 0
    · rw [if_pos c1, if_neg (fun q => (hc.1.mp q).1 c1)]
      refine norm k _ _ hk (hU _ _ (fun _ _ _ _ _ => rfl) (fun _ _ _ => rfl) (pF_of hF1 (fun _ _ => rfl) (fun c hc => u3_c (by rintro rfl; simp at hc))) (fun c a _ _ _ => u3_c a) (fun j => ?_))
      rw [u3_at, t1 19 (by decide) (by decide)]; simp
    · rw [if_neg c1]
      by_cases c2 : (ls_x r k (σ 11 0 k) (r + u) 0 (se_1 σ k)).2 = 0
      · obtain ⟨i', -, a2, a3⟩ := hx.1.mp c2
        rw [if_pos c2, if_neg (fun q => (hc.1.mp q).2 i' (by omega) a3)]
        refine norm k _ _ hk (hU _ _ (fun c a _ _ _ => hxc c a) (fun a b hb => hx.2.1 a b hb) (pF_of hF1 (fun c hc => hxc c (by rintro rfl; simp at hc)) (fun c hc => u3_c (by rintro rfl; simp at hc))) (fun c a _ _ _ => u3_c a) (fun j => ?_))
        rw [u3_at, t1 19 (by decide) (by decide)]; simp
      · have c3 : mo_c (mo_1 τ k) r u n (k + 1) = 0 := hc.1.mpr ⟨c1, fun i hi q => c2 (hx.1.mpr ⟨i, Nat.zero_le _, by omega, q⟩)⟩
        rw [if_neg c2, if_pos c3]
        by_cases c4 : k + 1 < n
        · rw [if_pos c4, if_neg (by omega)]
          have z : ∀ c, c ≠ 7 → c ≠ 15 → c ≠ 11 → u3 (u3 (ls_x r k (σ 11 0 k) (r + u) 0 (se_1 σ k)).1 15 0 0 (nI (k + 1))) 11 0 (k + 1) (σ 1 0 (k + 1)) c = se_1 σ k c := fun c a b d => by rw [u3_c d, u3_c b, hxc c a]
          have w : ∀ c, c ≠ 5 → c ≠ 19 → u3 (u3 (mo_1 τ k) 5 0 0 (nI (k + 1))) 19 0 (k + 1) (τ 11 0 (k + 1)) c = mo_1 τ k c := fun c a b => by rw [u3_c b, u3_c a]
          have z11 : ∀ j, j ≠ k + 1 → u3 (u3 (ls_x r k (σ 11 0 k) (r + u) 0 (se_1 σ k)).1 15 0 0 (nI (k + 1))) 11 0 (k + 1) (σ 1 0 (k + 1)) 11 0 j = σ 11 0 j := fun j hj' => by rw [u3_j hj', u3_c (by decide), hxc 11 (by decide), e11]
          have z0 : u3 (u3 (ls_x r k (σ 11 0 k) (r + u) 0 (se_1 σ k)).1 15 0 0 (nI (k + 1))) 11 0 (k + 1) (σ 1 0 (k + 1)) 0 = σ 0 := by rw [z 0 (by decide) (by decide) (by decide), e0]
          have z3 : u3 (u3 (ls_x r k (σ 11 0 k) (r + u) 0 (se_1 σ k)).1 15 0 0 (nI (k + 1))) 11 0 (k + 1) (σ 1 0 (k + 1)) 3 = σ 3 := by rw [z 3 (by decide) (by decide) (by decide), e3]
          have z7 : u3 (u3 (ls_x r k (σ 11 0 k) (r + u) 0 (se_1 σ k)).1 15 0 0 (nI (k + 1))) 11 0 (k + 1) (σ 1 0 (k + 1)) 7 = (ls_x r k (σ 11 0 k) (r + u) 0 (se_1 σ k)).1 7 := by rw [u3_c (by decide), u3_c (by decide)]
          refine ih (k + 1) _ _ c4 ⟨pL_of hL1 (fun c hc => z c (by rintro rfl; simp at hc) (by rintro rfl; simp at hc) (by rintro rfl; simp at hc)) (fun c hc => w c (by rintro rfl; simp at hc) (by rintro rfl; simp at hc)), pF_of hF1 (fun c hc => z c (by rintro rfl; simp at hc) (by rintro rfl; simp at hc) (by rintro rfl; simp at hc)) (fun c hc => w c (by rintro rfl; simp at hc) (by rintro rfl; simp at hc)), pH_of hH1 (fun c hc => z c (by rintro rfl; simp at hc) (by rintro rfl; simp at hc) (by rintro rfl; simp at hc)), ?_, ?_, ?_, ?_, fun j hj' => ?_, ⟨?_, ?_⟩, fun j hj' => ?_, fun i hi j hj' => ?_⟩
          · rw [w 6 (by decide) (by decide), t1 6 (by decide) (by decide)]; exact h6
          · rw [w 0 (by decide) (by decide), t1 0 (by decide) (by decide)]; exact h0
          · rw [u3_c (by decide), u3_s]
          · rw [u3_c (by decide), u3_s]
          · rw [z11 j (by omega), w 20 (by decide) (by decide), u3_j (by omega), u3_c (by decide), t1 19 (by decide) (by decide), ← hnum j hj']
            by_cases e : j = k
            · subst e; exact ⟨rfl, h19.symm, hp⟩
            · obtain ⟨a1, a2, a3⟩ := hj j (by omega)
              exact ⟨rfl, a2.trans a1.symm, a3⟩
          · rw [u3_s, u3_s, hL.2.1.2.1]
          · rw [u3_s]; exact (hL.2.1.2.2 (k + 1)).2.2.1
          · rw [z 13 (by decide) (by decide) (by decide), pw_of z0 j (fun c hc => z11 c (by omega))]
            by_cases e : j = k + 1
            · subst e; rw [s13k, pw, h13 k (Nat.le_refl _)]
            · rw [s13 j e]; exact h13 j (by omega)
          · rw [z7, ps_of z3 j (fun c hc => z11 c (by omega))]
            by_cases e : j = k + 1
            · subst e
              rw [hx.2.2.1 c2 i (Nat.zero_le _) (by omega), e7, e3, ps, h7 i hi k (Nat.le_refl _)]
            · rw [hx.2.1 _ _ e, e7]; exact h7 i hi j (by omega)
        · have ekn : k + 1 = n := by omega
          rw [if_neg c4, if_pos ekn]
          have yc : ∀ c, c ≠ 7 → c ≠ 12 → c ≠ 17 → c ≠ 18 → se_k (ls_x r k (σ 11 0 k) (r + u) 0 (se_1 σ k)).1 n (σ 13 0 k + σ 0 0 k * σ 11 0 k) c = se_1 σ k c := fun c a b d g => by rw [se_k_c d g b, hxc c a]
          have tc : ∀ c, c ≠ 19 → c ≠ 7 → c ≠ 9 → c ≠ 21 → u3 (mo_q (mo_1 τ k) n n) 19 0 k (τ 19 0 k - 1) c = mo_1 τ k c := fun c a b d g => by rw [u3_c a, mo_q_c b d g]
          refine norm k _ _ hk (hU _ _ yc (fun a b hb => ?_) ?_ tc (fun j => ?_))
          · rw [se_k_c (by decide) (by decide) (by decide)]; exact hx.2.1 a b hb
          · have q17 : se_k (ls_x r k (σ 11 0 k) (r + u) 0 (se_1 σ k)).1 n (σ 13 0 k + σ 0 0 k * σ 11 0 k) 17 0 0 = 1 := by unfold se_k; rw [uA_n (by decide), u3_c (by decide), u3_s]
            have q18 : se_k (ls_x r k (σ 11 0 k) (r + u) 0 (se_1 σ k)).1 n (σ 13 0 k + σ 0 0 k * σ 11 0 k) 18 0 0 = σ 13 0 k + σ 0 0 k * σ 11 0 k := by unfold se_k; rw [uA_n (by decide), u3_s]
            have q7 : u3 (mo_q (mo_1 τ k) n n) 19 0 k (τ 19 0 k - 1) 7 0 0 = 1 := by rw [u3_c (by decide)]; unfold mo_q; rw [uA_n (by decide), u3_c (by decide), u3_s]
            have q9 : u3 (mo_q (mo_1 τ k) n n) 19 0 k (τ 19 0 k - 1) 9 0 0 = mo_w (mo_1 τ k) n := by rw [u3_c (by decide)]; unfold mo_q; rw [uA_n (by decide), u3_s]
            refine ⟨⟨by rw [q17, q7], Or.inr q17, ?_⟩, fun _ => ⟨?_, fun j hj' => ?_⟩⟩
            · rw [yc 16 (by decide) (by decide) (by decide) (by decide), tc 8 (by decide) (by decide) (by decide) (by decide)]; exact hF1.1.2.2
            · rw [q18, q9, ← hc.2, ekn]
            · rw [u3_c (by decide)]
              unfold se_k mo_q
              rw [uA_s, uA_s, if_pos hj', ← hnum j (by omega)]
              unfold va_cpy
              rw [if_pos (by omega), hxc 11 (by decide), e11, Nat.zero_add, Nat.sub_zero]
          · rw [u3_at, mo_q_c (by decide) (by decide) (by decide), t1 19 (by decide) (by decide)]; simp
end
