/-! PURE: the relation of the class's state and the reference's -/
theorem bt_1 (i : Nat) : bt 1 i = decide (i = 0) := by
  by_cases h : i < 32
  · exact (show ∀ i, i < 32 → bt 1 i = decide (i = 0) by decide +kernel) i h
  · rw [b_big (by omega)]
    simp; omega
theorem fo_bt {x : Int32} {b : Nat} (hb : b < 32) : fo_b x (nI b) = if bt x b = true then 1 else 0 := by
  unfold fo_b
  have h : ((x >>> (nI b &&& 31)) &&& 1 = 1) ↔ bt x b = true := by
    constructor
    · intro e
      have := congrArg (fun z => bt z 0) e
      simp only [b_and, b_sshr b hb x (show 0 < 32 by decide), bt_1] at this
      simpa [hb] using this
    · intro e
      apply b_ext
      intro i hi
      rw [b_and, bt_1]
      by_cases h0 : i = 0
      · subst h0
        rw [b_sshr b hb x (by decide)]
        simp [hb, e]
      · simp [h0]
  by_cases e : bt x b = true
  · rw [if_pos (h.mpr e), if_pos e]
  · rw [if_neg (fun q => e (h.mp q)), if_neg e]
/-- what the search doesn't touch -/
def pL (σ μ : oS) (n r u : Nat) : Prop :=
  (n ≤ 5 ∧ r ≤ 4 ∧ u ≤ 4 ∧ σ 2 0 0 = nI n ∧ μ 1 0 0 = nI n ∧ σ 9 0 0 = nI r ∧ μ 2 0 0 = nI r ∧ σ 10 0 0 = nI u ∧ μ 3 0 0 = nI u) ∧
  (σ 0 0 = μ 10 0 ∧ σ 1 0 = μ 11 0 ∧ ∀ k, -1000 ≤ (σ 0 0 k).toInt ∧ (σ 0 0 k).toInt ≤ 1000 ∧ 0 ≤ (σ 1 0 k).toInt ∧ (σ 1 0 k).toInt ≤ 20) ∧
  (∀ k, k < 4 → σ 4 k 0 = μ 12 0 k ∧ σ 5 k 0 = μ 13 0 k ∧ σ 4 (k + 4) 0 = 0 ∧ ∀ j, j < 5 → σ 3 k j = μ 14 0 (5 * k + j) ∧ σ 3 (k + 4) j = if k < u then mo_f μ 0 k j else 0) ∧
  (mo_ok μ u ∧ ∀ k, k < u → mo_A μ k < n ∧ mo_B μ k < n ∧ mo_A μ k ≠ mo_B μ k ∧ σ 5 (k + 4) 0 = mo_r μ 0 k) ∧
  (∀ k, k < r + u → σ 6 (ls_i r k) 0 = μ 17 0 k) ∧
  (σ 20 0 0 = μ 4 0 0 ∧ ∀ a b, a < 5 → b < 5 → fo_b (σ 19 0 a) (nI b) = μ 18 0 (5 * a + b) ∧ (¬ μ 18 0 (5 * a + b) = 0 → a < n ∧ b < n ∧ a ≠ b))
theorem pL_of {σ μ σ' μ' : oS} {n r u : Nat} (h : pL σ μ n r u) (hσ : ∀ c, c ∈ [0, 1, 2, 3, 4, 5, 6, 9, 10, 19, 20] → σ' c = σ c) (hμ : ∀ c, c ∈ [1, 2, 3, 4, 10, 11, 12, 13, 14, 15, 16, 17, 18] → μ' c = μ c) : pL σ' μ' n r u := by
  have a0 := hσ 0 (by decide)
  have a1 := hσ 1 (by decide)
  have a2 := hσ 2 (by decide)
  have a3 := hσ 3 (by decide)
  have a4 := hσ 4 (by decide)
  have a5 := hσ 5 (by decide)
  have a6 := hσ 6 (by decide)
  have a9 := hσ 9 (by decide)
  have a10 := hσ 10 (by decide)
  have a19 := hσ 19 (by decide)
  have a20 := hσ 20 (by decide)
  have b1 := hμ 1 (by decide)
  have b2 := hμ 2 (by decide)
  have b3 := hμ 3 (by decide)
  have b4 := hμ 4 (by decide)
  have b10 := hμ 10 (by decide)
  have b11 := hμ 11 (by decide)
  have b12 := hμ 12 (by decide)
  have b13 := hμ 13 (by decide)
  have b14 := hμ 14 (by decide)
  have b15 := hμ 15 (by decide)
  have b16 := hμ 16 (by decide)
  have b17 := hμ 17 (by decide)
  have b18 := hμ 18 (by decide)
  unfold pL mo_ok mo_r mo_f mo_A mo_B at *
  simp only [a0, a1, a2, a3, a4, a5, a6, a9, a10, a19, a20, b1, b2, b3, b4, b10, b11, b12, b13, b14, b15, b16, b17, b18]
  exact h
/-- the class's partial sums -/
def pw (σ : oS) : Nat → Int32
  | 0 => 0
  | c + 1 => pw σ c + σ 0 0 c * σ 11 0 c
def ps (σ : oS) (i : Nat) : Nat → Int32
  | 0 => 0
  | c + 1 => ps σ i c + σ 3 i c * σ 11 0 c
/-- what can still be added -/
def pH (σ : oS) (n r u : Nat) : Prop := (∀ j, j ≤ n → σ 14 0 j = se_q σ n (n - j)) ∧ ∀ k, k < r + u → ∀ j, j ≤ n → σ 8 (ls_i r k) j = li_q σ (ls_i r k) n (n - j)
/-- the search stands at column k -/
def pK (σ μ : oS) (r u k : Nat) : Prop :=
  (∀ j, j < k → σ 11 0 j = μ 20 0 j ∧ μ 19 0 j = μ 20 0 j ∧ 0 ≤ (σ 11 0 j).toInt) ∧ (σ 11 0 k = μ 19 0 k ∧ 0 ≤ (σ 11 0 k).toInt) ∧ (∀ j, j ≤ k → σ 13 0 j = pw σ j) ∧ ∀ i, i < r + u → ∀ j, j ≤ k → σ 7 (ls_i r i) j = ps σ (ls_i r i) j
/-- what was found -/
def pF (σ μ : oS) (n : Nat) : Prop := (σ 17 0 0 = μ 7 0 0 ∧ (σ 17 0 0 = 0 ∨ σ 17 0 0 = 1) ∧ σ 16 0 0 = μ 8 0 0) ∧ (σ 17 0 0 = 1 → σ 18 0 0 = μ 9 0 0 ∧ ∀ j, j < n → σ 12 0 j = μ 21 0 j)
def pS (σ μ : oS) (n r u : Nat) : Prop := pF σ μ n ∧ pH σ n r u ∧
  ((μ 6 0 0 = 0 ∧ ∃ k, (n ≠ 0 → k < n) ∧ (n = 0 → k = 0 ∧ σ 17 0 0 = 0) ∧ σ 15 0 0 = nI k ∧ μ 5 0 0 = nI k ∧ pK σ μ r u k) ∨
   (¬ μ 6 0 0 = 0 ∧ σ 15 0 0 = -1 ∧ (n = 0 → σ 17 0 0 = (if ls_0 σ r (r + u) = true then 1 else 0) ∧ σ 18 0 0 = 0)))
theorem se_q_of {σ σ' : oS} (h0 : σ' 0 = σ 0) (h1 : σ' 1 = σ 1) (n d : Nat) : se_q σ' n d = se_q σ n d := by
  induction d with
  | zero => rfl
  | succ d ih => rw [se_q, se_q, ih, se_m, se_m, h0, h1]
theorem li_q_of {σ σ' : oS} {i : Nat} (h1 : σ' 1 = σ 1) (h3 : σ' 3 = σ 3) (h4 : σ' 4 = σ 4) (n d : Nat) : li_q σ' i n d = li_q σ i n d := by
  induction d with
  | zero => rfl
  | succ d ih => rw [li_q, li_q, ih, li_k, li_k, h1, h3, h4]
theorem pw_of {σ σ' : oS} (h0 : σ' 0 = σ 0) (d : Nat) (h : ∀ j, j < d → σ' 11 0 j = σ 11 0 j) : pw σ' d = pw σ d := by
  induction d with
  | zero => rfl
  | succ d ih => rw [pw, pw, ih (fun j hj => h j (by omega)), h d (by omega), h0]
theorem ps_of {σ σ' : oS} {i : Nat} (h3 : σ' 3 = σ 3) (d : Nat) (h : ∀ j, j < d → σ' 11 0 j = σ 11 0 j) : ps σ' i d = ps σ i d := by
  induction d with
  | zero => rfl
  | succ d ih => rw [ps, ps, ih (fun j hj => h j (by omega)), h d (by omega), h3]
theorem ls_0_of {σ σ' : oS} {r : Nat} (h4 : σ' 4 = σ 4) (h5 : σ' 5 = σ 5) (d : Nat) : ls_0 σ' r d = ls_0 σ r d := by
  induction d with
  | zero => rfl
  | succ d ih => rw [ls_0, ls_0, ih, li_h, li_h, h4, h5]
theorem pH_of {σ σ' : oS} {n r u : Nat} (h : pH σ n r u) (hσ : ∀ c, c ∈ [0, 1, 3, 4, 8, 14] → σ' c = σ c) : pH σ' n r u := by
  refine ⟨fun j hj => ?_, fun k hk j hj => ?_⟩
  · rw [hσ 14 (by decide), se_q_of (hσ 0 (by decide)) (hσ 1 (by decide))]; exact h.1 j hj
  · rw [hσ 8 (by decide), li_q_of (hσ 1 (by decide)) (hσ 3 (by decide)) (hσ 4 (by decide))]; exact h.2 k hk j hj
theorem pK_of {σ μ σ' μ' : oS} {r u k : Nat} (h : pK σ μ r u k) (hσ : ∀ c, c ∈ [0, 3, 7, 11, 13] → σ' c = σ c) (hμ : ∀ c, c ∈ [19, 20] → μ' c = μ c) : pK σ' μ' r u k := by
  have e11 := hσ 11 (by decide)
  refine ⟨fun j hj => ?_, ?_, fun j hj => ?_, fun i hi j hj => ?_⟩
  · rw [e11, hμ 19 (by decide), hμ 20 (by decide)]; exact h.1 j hj
  · rw [e11, hμ 19 (by decide)]; exact h.2.1
  · rw [hσ 13 (by decide), pw_of (hσ 0 (by decide)) j (fun _ _ => by rw [e11])]; exact h.2.2.1 j hj
  · rw [hσ 7 (by decide), ps_of (hσ 3 (by decide)) j (fun _ _ => by rw [e11])]; exact h.2.2.2 i hi j hj
theorem pS_of {σ μ σ' μ' : oS} {n r u : Nat} (h : pS σ μ n r u) (hσ : ∀ c, c ∈ [0, 1, 3, 4, 5, 7, 8, 11, 12, 13, 14, 15, 16, 17, 18] → σ' c = σ c) (hμ : ∀ c, c ∈ [5, 6, 7, 8, 9, 19, 20, 21] → μ' c = μ c) : pS σ' μ' n r u := by
  obtain ⟨⟨h1, h2⟩, h3, h4⟩ := h
  have e17 := hσ 17 (by decide)
  refine ⟨⟨?_, ?_⟩, pH_of h3 (fun c hc => hσ c (by simp only [List.mem_cons, List.not_mem_nil, or_false] at hc ⊢; omega)), ?_⟩
  · rw [e17, hσ 16 (by decide), hμ 7 (by decide), hμ 8 (by decide)]; exact h1
  · rw [e17, hσ 18 (by decide), hσ 12 (by decide), hμ 9 (by decide), hμ 21 (by decide)]; exact h2
  · rw [e17, hσ 15 (by decide), hσ 18 (by decide), hμ 5 (by decide), hμ 6 (by decide), ls_0_of (hσ 4 (by decide)) (hσ 5 (by decide))]
    rcases h4 with ⟨a, k, b, c, d, e, f⟩ | h4
    · exact Or.inl ⟨a, k, b, c, d, e, pK_of f (fun c hc => hσ c (by simp only [List.mem_cons, List.not_mem_nil, or_false] at hc ⊢; omega)) (fun c hc => hμ c (by simp only [List.mem_cons, List.not_mem_nil, or_false] at hc ⊢; omega))⟩
    · exact Or.inr h4
def pR (σ μ : oS) : Prop := ∃ n r u, pL σ μ n r u ∧ pS σ μ n r u
theorem pR_mu {σ μ ν : oS} (h : pR σ μ) (e : ∀ c, c ≠ 0 → c ≠ 22 → c ≠ 23 → ν c = μ c) : pR σ ν := by
  obtain ⟨n, r, u, h1, h2⟩ := h
  refine ⟨n, r, u, pL_of h1 (fun _ _ => rfl) (fun c hc => e c ?_ ?_ ?_), pS_of h2 (fun _ _ => rfl) (fun c hc => e c ?_ ?_ ?_)⟩ <;>
    (simp only [List.mem_cons, List.not_mem_nil, or_false] at hc; omega)
theorem pR_0 : pR zz zz := by
  have hz : ∀ a b c, zz a b c = 0 := fun _ _ _ => rfl
  refine ⟨0, 0, 0, ⟨⟨by decide, by decide, by decide, rfl, rfl, rfl, rfl, rfl, rfl⟩, ⟨rfl, rfl, fun k => by simp only [hz]; decide⟩, ?_, ⟨fun k h => absurd h (by omega), fun k h => absurd h (by omega)⟩, fun k h => absurd h (by omega), rfl, ?_⟩, ⟨⟨rfl, Or.inl rfl, rfl⟩, fun _ => ⟨rfl, fun j h => absurd h (by omega)⟩⟩, ⟨fun j hj => ?_, fun k h => absurd h (by omega)⟩, Or.inl ⟨rfl, 0, fun h => absurd rfl h, fun _ => ⟨rfl, rfl⟩, rfl, rfl, ⟨fun j h => absurd h (by omega), ⟨rfl, by simp only [hz]; decide⟩, fun j hj => ?_, fun i h => absurd h (by omega)⟩⟩⟩
  · intro k hk
    refine ⟨rfl, rfl, rfl, fun j hj => ⟨rfl, by rw [if_neg (by omega)]; rfl⟩⟩
  · intro a b ha hb
    refine ⟨?_, fun h => absurd rfl h⟩
    rw [fo_bt (by omega), show zz 19 0 a = 0 from rfl, b_0]; rfl
  · rw [show j = 0 by omega]; rfl
  · rw [show j = 0 by omega]; rfl
