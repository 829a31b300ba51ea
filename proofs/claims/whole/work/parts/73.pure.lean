/-! PURE: the parts of the relation one by one; follow -/
section
variable {l : Launch} {σ μ σ' μ' : oS} {n r u : Nat}
def pLa (σ μ : oS) (n r u : Nat) : Prop := n ≤ 5 ∧ r ≤ 4 ∧ u ≤ 4 ∧ σ 2 0 0 = nI n ∧ μ 1 0 0 = nI n ∧ σ 9 0 0 = nI r ∧ μ 2 0 0 = nI r ∧ σ 10 0 0 = nI u ∧ μ 3 0 0 = nI u
def pLb (σ μ : oS) : Prop := σ 0 0 = μ 10 0 ∧ σ 1 0 = μ 11 0 ∧ ∀ k, -1000 ≤ (σ 0 0 k).toInt ∧ (σ 0 0 k).toInt ≤ 1000 ∧ 0 ≤ (σ 1 0 k).toInt ∧ (σ 1 0 k).toInt ≤ 20
def pLc (σ μ : oS) (u : Nat) : Prop := ∀ k, k < 4 → σ 4 k 0 = μ 12 0 k ∧ σ 5 k 0 = μ 13 0 k ∧ σ 4 (k + 4) 0 = 0 ∧ ∀ j, j < 5 → σ 3 k j = μ 14 0 (5 * k + j) ∧ σ 3 (k + 4) j = if k < u then mo_f μ 0 k j else 0
def pLd (σ μ : oS) (n u : Nat) : Prop := mo_ok μ u ∧ ∀ k, k < u → mo_A μ k < n ∧ mo_B μ k < n ∧ mo_A μ k ≠ mo_B μ k ∧ σ 5 (k + 4) 0 = mo_r μ 0 k
def pLe (σ μ : oS) (r u : Nat) : Prop := ∀ k, k < r + u → σ 6 (ls_i r k) 0 = μ 17 0 k
def pLf (σ μ : oS) (n : Nat) : Prop := σ 20 0 0 = μ 4 0 0 ∧ ∀ a b, a < 5 → b < 5 → fo_b (σ 19 0 a) (nI b) = μ 18 0 (5 * a + b) ∧ (¬ μ 18 0 (5 * a + b) = 0 → a < n ∧ b < n ∧ a ≠ b)
theorem pL_iff : pL σ μ n r u ↔ pLa σ μ n r u ∧ pLb σ μ ∧ pLc σ μ u ∧ pLd σ μ n u ∧ pLe σ μ r u ∧ pLf σ μ n := Iff.rfl
theorem pLa_of (h : pLa σ μ n r u) (hσ : ∀ c, c ∈ [2, 9, 10] → σ' c = σ c) (hμ : ∀ c, c ∈ [1, 2, 3] → μ' c = μ c) : pLa σ' μ' n r u := by
  unfold pLa at *
  rw [hσ 2 (by decide), hσ 9 (by decide), hσ 10 (by decide), hμ 1 (by decide), hμ 2 (by decide), hμ 3 (by decide)]
  exact h
theorem pLb_of (h : pLb σ μ) (hσ : ∀ c, c ∈ [0, 1] → σ' c = σ c) (hμ : ∀ c, c ∈ [10, 11] → μ' c = μ c) : pLb σ' μ' := by
  unfold pLb at *
  rw [hσ 0 (by decide), hσ 1 (by decide), hμ 10 (by decide), hμ 11 (by decide)]
  exact h
theorem pLc_of (h : pLc σ μ u) (hσ : ∀ c, c ∈ [3, 4, 5] → σ' c = σ c) (hμ : ∀ c, c ∈ [12, 13, 14, 15, 16] → μ' c = μ c) : pLc σ' μ' u := by
  unfold pLc mo_f at *
  rw [hσ 3 (by decide), hσ 4 (by decide), hσ 5 (by decide), hμ 12 (by decide), hμ 13 (by decide), hμ 14 (by decide), hμ 15 (by decide), hμ 16 (by decide)]
  exact h
theorem pLd_of (h : pLd σ μ n u) (hσ : ∀ c, c ∈ [5] → σ' c = σ c) (hμ : ∀ c, c ∈ [11, 13, 15, 16] → μ' c = μ c) : pLd σ' μ' n u := by
  unfold pLd mo_ok mo_r mo_A mo_B at *
  rw [hσ 5 (by decide), hμ 11 (by decide), hμ 13 (by decide), hμ 15 (by decide), hμ 16 (by decide)]
  exact h
theorem pLe_of (h : pLe σ μ r u) (hσ : ∀ c, c ∈ [6] → σ' c = σ c) (hμ : ∀ c, c ∈ [17] → μ' c = μ c) : pLe σ' μ' r u := by
  unfold pLe at *
  rw [hσ 6 (by decide), hμ 17 (by decide)]
  exact h
theorem pLf_of (h : pLf σ μ n) (hσ : ∀ c, c ∈ [19, 20] → σ' c = σ c) (hμ : ∀ c, c ∈ [4, 18] → μ' c = μ c) : pLf σ' μ' n := by
  unfold pLf at *
  rw [hσ 19 (by decide), hσ 20 (by decide), hμ 4 (by decide), hμ 18 (by decide)]
  exact h
theorem fo_bs {x : Int32} {b t : Nat} (hb : b < 5) (ht : t < 5) : fo_b (x ||| (1 <<< (nI t &&& 31))) (nI b) = if b = t then 1 else fo_b x (nI b) := by
  rw [fo_bt (by omega), fo_bt (by omega), b_or, b_shl t (by omega) 1 (by omega), bt_1]
  by_cases h : b = t
  · subst h
    simp
  · have : (decide (t ≤ b) && decide (b - t = 0)) = false := by
      simp; omega
    rw [this, Bool.or_false, if_neg h]
set_option maxHeartbeats 1000000 in
theorem s_follow (hfl : l.flags = pinnedFlags ++ [noTraceFlag]) : st_follow l pR := by
  intro σ μ h x y D cI cL cZ cJ ad am o fj
  obtain ⟨n, r, u, hL, hS⟩ := id h
  obtain ⟨ha, hb, hc, hd, he, hf⟩ := pL_iff.mp hL
  have hn := ha.1
  rcases pc_p hL x y with ⟨a, b1, b2, b3, j, t, hj, ht, hjt, rfl, rfl⟩ | ⟨a, b⟩
  · have hbit := (hf.2 j t (by omega) (by omega)).1
    by_cases g : σ 20 0 0 < 10 ∧ fo_b (σ 19 0 j) (nI t) = 0
    · have g1 : ¬ 10 ≤ μ 4 0 0 := by
        have := g.1
        rw [hf.1] at this
        intro q
        rw [Int32.le_iff_toInt_le] at q
        rw [Int32.lt_iff_toInt_lt] at this
        omega
      refine ⟨_, _, _, 0, _, _, _, (by exact ⟨rfl, rfl, Nat.le_of_ble_eq_true rfl, Nat.le_of_ble_eq_true rfl⟩), w_follow_0 σ rfl (by omega) a g.1 g.2, (by exact ⟨rfl, rfl, Nat.le_of_ble_eq_true rfl, Nat.le_of_ble_eq_true rfl⟩), c_Mo_follow μ rfl (by omega) rfl (by omega) b1 b2 b3 g1 (by rw [← hbit]; exact g.2), by rw [u3_c (by decide), u3_c (by decide), u3_s], fun _ => ?_, n, r, u, pL_iff.mpr ⟨?_, ?_, ?_, ?_, ?_, ?_, ?_⟩, ?_⟩
      · rw [show vp_updL fj 0 (Int32.toInt64 (σ 20 0 0 + 1)) 0 = Int32.toInt64 (σ 20 0 0 + 1) from if_pos rfl, hf.1]
      · exact pLa_of ha (fun c hc => by rw [u3_c (by rintro rfl; simp at hc), u3_c (by rintro rfl; simp at hc)]) (fun c hc => by rw [u3_c (by rintro rfl; simp at hc), u3_c (by rintro rfl; simp at hc), u3_c (by rintro rfl; simp at hc)])
      · exact pLb_of hb (fun c hc => by rw [u3_c (by rintro rfl; simp at hc), u3_c (by rintro rfl; simp at hc)]) (fun c hc => by rw [u3_c (by rintro rfl; simp at hc), u3_c (by rintro rfl; simp at hc), u3_c (by rintro rfl; simp at hc)])
      · exact pLc_of hc (fun c hc => by rw [u3_c (by rintro rfl; simp at hc), u3_c (by rintro rfl; simp at hc)]) (fun c hc => by rw [u3_c (by rintro rfl; simp at hc), u3_c (by rintro rfl; simp at hc), u3_c (by rintro rfl; simp at hc)])
      · exact pLd_of hd (fun c hc => by rw [u3_c (by rintro rfl; simp at hc), u3_c (by rintro rfl; simp at hc)]) (fun c hc => by rw [u3_c (by rintro rfl; simp at hc), u3_c (by rintro rfl; simp at hc), u3_c (by rintro rfl; simp at hc)])
      · exact pLe_of he (fun c hc => by rw [u3_c (by rintro rfl; simp at hc), u3_c (by rintro rfl; simp at hc)]) (fun c hc => by rw [u3_c (by rintro rfl; simp at hc), u3_c (by rintro rfl; simp at hc), u3_c (by rintro rfl; simp at hc)])
      · rw [u3_s, u3_s, hf.1]
      · intro p q hp hq
        rw [u3_c (show (19 : Nat) ≠ 20 by decide), u3_c (show (18 : Nat) ≠ 4 by decide)]
        have h0 : u3 μ 0 0 0 0 18 = μ 18 := u3_c (by decide)
        by_cases hpj : p = j
        · subst hpj
          rw [u3_s, fo_bs hq (by omega)]
          by_cases hqt : q = t
          · subst hqt
            rw [if_pos rfl, u3_s]
            exact ⟨rfl, fun _ => ⟨hj, ht, hjt⟩⟩
          · rw [if_neg hqt, u3_j (by omega), h0]
            exact hf.2 p q hp hq
        · rw [u3_j hpj, u3_j (by omega), h0]
          exact hf.2 p q hp hq
      · exact pS_of hS (fun c hc => by rw [u3_c (by rintro rfl; simp at hc), u3_c (by rintro rfl; simp at hc)]) (fun c hc => by rw [u3_c (by rintro rfl; simp at hc), u3_c (by rintro rfl; simp at hc), u3_c (by rintro rfl; simp at hc)])
    · refine ⟨_, _, _, 2, σ, _, _, (by exact ⟨rfl, rfl, Nat.le_of_ble_eq_true rfl, Nat.le_of_ble_eq_true rfl⟩), w_follow_2 hfl σ rfl (by omega) a g, (by exact ⟨rfl, rfl, Nat.le_of_ble_eq_true rfl, Nat.le_of_ble_eq_true rfl⟩), c_Mo_follow_2 μ rfl (by omega) rfl (by omega) b1 b2 b3 ?_, u3_s, fun q => absurd q (by decide), pR_thr h⟩
      by_cases g1 : 10 ≤ μ 4 0 0
      · exact Or.inl g1
      · refine Or.inr (fun q => g ⟨?_, by rw [hbit]; exact q⟩)
        rw [hf.1, Int32.lt_iff_toInt_lt]
        rw [Int32.le_iff_toInt_le] at g1
        omega
  · exact ⟨_, _, _, 1, σ, _, _, (by exact ⟨rfl, rfl, Nat.le_of_ble_eq_true rfl, Nat.le_of_ble_eq_true rfl⟩), w_follow_1 hfl σ a, (by exact ⟨rfl, rfl, Nat.le_of_ble_eq_true rfl, Nat.le_of_ble_eq_true rfl⟩), c_Mo_follow_1 μ b, u3_s, fun q => absurd q (by decide), pR_thr h⟩
end
