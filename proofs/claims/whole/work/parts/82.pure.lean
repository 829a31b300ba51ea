/-! PURE: the class's chain in abstract words -/
section
variable {σ μ : oS} {n r u : Nat}
def Em (μ : oS) (a b : Nat) : Bool := decide (a < 5 ∧ b < 5 ∧ ¬ μ 18 0 (5 * a + b) = 0)
def cB (y : Int32) (S : Nat → Bool) : Prop := ∀ b, b < 5 → bt y b = S b
theorem cB_b {y : Int32} {S : Nat → Bool} (h : cB y S) {b : Nat} (hb : b < 5) : fo_b y (nI b) = if S b = true then 1 else 0 := by rw [fo_bt (by omega), h b hb]
theorem cB_or {y : Int32} {S : Nat → Bool} {a : Nat} (ha : a < 5) (h : cB y S) : cB (y ||| (1 <<< (nI a &&& 31))) (ad1 S a) := by
  intro b hb
  rw [b_or, b_shl a (by omega) 1 (by omega), bt_1, h b hb]
  unfold ad1
  congr 1
  by_cases e : b = a
  · subst e; simp
  · have : (decide (a ≤ b) && decide (b - a = 0)) = false := by simp; omega
    rw [this]
    simp [e]
theorem cB_an {x y : Int32} {S C : Nat → Bool} (hx : cB x C) (h : cB y S) : cB (x &&& (y ^^^ (-1))) (fun b => C b && !(S b)) := by
  intro b hb
  rw [b_and, b_xor, b_m1 b (by omega), hx b hb, h b hb, Bool.xor_true]
theorem cB_E (hf : pLf σ μ n) {a : Nat} (ha : a < 5) : cB (σ 19 0 a) (Em μ a) := by
  intro b hb
  have h := (hf.2 a b ha hb).1
  rw [fo_bt (by omega)] at h
  unfold Em
  by_cases e : bt (σ 19 0 a) b = true
  · rw [if_pos e] at h
    rw [e]
    symm
    rw [decide_eq_true_eq]
    exact ⟨ha, hb, by rw [← h]; decide⟩
  · rw [if_neg e] at h
    have e' : bt (σ 19 0 a) b = false := by simpa using e
    rw [e']
    symm
    rw [decide_eq_false_iff_not]
    intro q
    exact q.2.2 h.symm
theorem aM_le {g : Nat → Nat} {C : Nat → Bool} {K : Nat} (h : ∀ b, g b ≤ K) (m : Nat) : aM g C m ≤ K := by
  rcases aM_at (g := g) (C := C) m with q | ⟨b, -, -, q⟩
  · omega
  · rw [q]; exact h b
theorem aL_le {E : Nat → Nat → Bool} : ∀ (d a : Nat) (S : Nat → Bool), aL E d a S ≤ d := by
  intro d
  induction d with
  | zero => intro a S; exact Nat.le_refl _
  | succ d ih =>
    intro a S
    rw [aL]
    have := aM_le (g := fun b => aL E d b (ad1 S a)) (C := fun b => E a b && !(ad1 S a b)) (K := d) (fun b => ih b _) 5
    omega
theorem fo_s_c {g : Nat → Int32} {g' : Nat → Nat} {bits : Int32} {C : Nat → Bool} (hC : cB bits C) (hg : ∀ b, b < 5 → g b = nI (g' b)) (hK : ∀ b, g' b ≤ 100) : ∀ m, m ≤ 5 → fo_s g bits m = nI (aM g' C m) := by
  intro m
  induction m with
  | zero => intro _; rfl
  | succ m ih =>
    intro hm
    have hM := aM_le (C := C) hK m
    have hgm := hK m
    rw [fo_s, aM, ih (by omega), cB_b hC (by omega), hg m (by omega)]
    by_cases e : C m = true
    · rw [if_pos e, if_neg (by decide), if_pos e]
      by_cases q : aM g' C m < g' m
      · rw [if_pos q, if_pos (nI_lt q (by omega))]
      · rw [if_neg q, if_neg (nI_nlt (by omega) (by omega))]
    · rw [if_neg e, if_pos rfl, if_neg e]
theorem fo_l_c (hf : pLf σ μ n) : ∀ (d : Nat), d ≤ 5 → ∀ (a : Nat) (y : Int32) (S : Nat → Bool), a < 5 → cB y S → fo_l σ d a y = nI (aL (Em μ) d a S) := by
  intro d
  induction d with
  | zero => intro _ a y S _ _; rfl
  | succ d ih =>
    intro hd a y S ha hy
    have h1 := cB_or ha hy
    rw [fo_l, aL, fo_s_c (g' := fun b => aL (Em μ) d b (ad1 S a)) (cB_an (cB_E hf ha) h1) (fun b hb => ih (by omega) b _ _ hb h1) (fun b => Nat.le_trans (aL_le d b _) (by omega)) 5 (Nat.le_refl _), nI_1]
def oI : Option Nat → Int32
  | none => -1
  | some p => nI p
theorem fo_p_c (hf : pLf σ μ n) {cs us : Int32} {S C : Nat → Bool} (hC : cB cs C) (hS : cB us S) : ∀ m, m ≤ 5 → (fo_p σ cs us m).1 = oI (aP (Em μ) S C m).1 ∧ (fo_p σ cs us m).2 = nI (aP (Em μ) S C m).2 := by
  intro m
  induction m with
  | zero => intro _; exact ⟨rfl, rfl⟩
  | succ m ih =>
    intro hm
    obtain ⟨i1, i2⟩ := ih (by omega)
    have hn : fo_n σ cs us m = nI (if C m = true then aL (Em μ) 5 m S else 0) := by
      unfold fo_n
      rw [cB_b hC (by omega)]
      by_cases e : C m = true
      · rw [if_pos e, if_neg (by decide), if_pos e, fo_l_c hf 5 (Nat.le_refl _) m us S (by omega) hS]
      · rw [if_neg e, if_pos rfl, if_neg e]; rfl
    have hb1 : (if C m = true then aL (Em μ) 5 m S else 0) ≤ 5 := by
      split
      · exact aL_le 5 m S
      · omega
    have hb2 : (aP (Em μ) S C m).2 ≤ 5 := by rw [aP_2]; exact aM_le (fun b => aL_le 5 b S) m
    rw [fo_p, aP, hn, i2]
    generalize hq : (if C m = true then aL (Em μ) 5 m S else 0) = q at *
    by_cases e : q ≤ (aP (Em μ) S C m).2
    · rw [if_pos e, if_pos (nI_le e (by omega))]
      exact ⟨i1, i2⟩
    · rw [if_neg e, if_neg (nI_ge (by omega) (by omega))]
      exact ⟨rfl, rfl⟩
theorem fo_a_c (hf : pLf σ μ n) : ∀ (k f : Nat) (us cs c : Int32) (S C : Nat → Bool), k < f → cB us S → cB cs C → fo_a σ (k + 1) us cs c = oI (aG (Em μ) f S C)[k]? := by
  intro k
  induction k with
  | zero =>
    intro f us cs c S C hk hS hC
    obtain ⟨f, rfl⟩ : ∃ g, f = g + 1 := ⟨f - 1, by omega⟩
    rw [fo_a, (fo_p_c hf hC hS 5 (Nat.le_refl _)).1]
    rcases aP_1 (E := Em μ) (S := S) (C := C) 5 with ⟨h1, -⟩ | ⟨p, hp, h1, -⟩
    · have eG : aG (Em μ) (f + 1) S C = [] := by rw [aG, h1]
      rw [eG, h1]
      rw [if_pos (show oI none < 0 by decide)]; rfl
    · have eG : aG (Em μ) (f + 1) S C = p :: aG (Em μ) f (ad1 S p) (fun b => Em μ p b && !(ad1 S p b)) := by rw [aG, h1]
      rw [eG, h1, if_neg (show ¬ oI (some p) < 0 from nI_pos (by omega))]
      rfl
  | succ k ih =>
    intro f us cs c S C hk hS hC
    obtain ⟨f, rfl⟩ : ∃ g, f = g + 1 := ⟨f - 1, by omega⟩
    rw [fo_a, (fo_p_c hf hC hS 5 (Nat.le_refl _)).1]
    rcases aP_1 (E := Em μ) (S := S) (C := C) 5 with ⟨h1, -⟩ | ⟨p, hp, h1, -⟩
    · have eG : aG (Em μ) (f + 1) S C = [] := by rw [aG, h1]
      rw [eG, h1]
      rw [if_pos (show oI none < 0 by decide)]; rfl
    · have eG : aG (Em μ) (f + 1) S C = p :: aG (Em μ) f (ad1 S p) (fun b => Em μ p b && !(ad1 S p b)) := by rw [aG, h1]
      rw [eG, h1, if_neg (show ¬ oI (some p) < 0 from nI_pos (by omega))]
      have e : oI (some p) = nI p := rfl
      rw [e, nI_clamp (by omega)]
      have h2 := cB_or hp hS
      rw [ih f _ _ _ (ad1 S p) (fun b => Em μ p b && !(ad1 S p b)) (by omega) h2 (cB_an (cB_E hf hp) h2), List.getElem?_cons_succ]
theorem cB_top : ∀ n, n ≤ 5 → ∀ b, b < 5 → bt ((1 <<< (nI n &&& 31)) - 1) b = decide (b < n) := by decide +kernel
/-- the class's answer -/
theorem fo_top (ha : pLa σ μ n r u) (hf : pLf σ μ n) {k f : Nat} (hk : k < f) : fo_a σ (k + 1) 0 ((1 <<< (σ 2 0 0 &&& 31)) - 1) (-1) = oI (aG (Em μ) f (fun _ => false) (fun b => decide (b < n)))[k]? := by
  refine fo_a_c hf k f _ _ _ _ _ hk (fun b _ => b_0 b) (fun b hb => ?_)
  rw [ha.2.2.2.1]
  exact cB_top n ha.1 b hb
end
