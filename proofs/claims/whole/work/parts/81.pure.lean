/-! PURE: longest chains, first in order -/
section
variable {E : Nat → Nat → Bool}
def ad1 (S : Nat → Bool) (a : Nat) : Nat → Bool := fun x => S x || x == a
/-- a chain whose head is of C, that keeps off S -/
def vq (E : Nat → Nat → Bool) : (Nat → Bool) → (Nat → Bool) → List Nat → Prop
  | _, _, [] => True
  | S, C, a :: t => C a = true ∧ S a = false ∧ vq E (ad1 S a) (E a) t
def aM (g : Nat → Nat) (C : Nat → Bool) : Nat → Nat
  | 0 => 0
  | b + 1 => if C b = true then (if aM g C b < g b then g b else aM g C b) else aM g C b
theorem aM_ge {g : Nat → Nat} {C : Nat → Bool} : ∀ m b, b < m → C b = true → g b ≤ aM g C m := by
  intro m
  induction m with
  | zero => intro b h; omega
  | succ m ih =>
    intro b h hC
    rw [aM]
    by_cases e : b = m
    · subst e
      rw [if_pos hC]
      split <;> omega
    · have := ih b (by omega) hC
      split
      · split <;> omega
      · exact this
theorem aM_at {g : Nat → Nat} {C : Nat → Bool} : ∀ m, aM g C m = 0 ∨ ∃ b, b < m ∧ C b = true ∧ aM g C m = g b := by
  intro m
  induction m with
  | zero => exact Or.inl rfl
  | succ m ih =>
    rw [aM]
    by_cases hC : C m = true
    · rw [if_pos hC]
      by_cases h : aM g C m < g m
      · rw [if_pos h]; exact Or.inr ⟨m, by omega, hC, rfl⟩
      · rw [if_neg h]
        rcases ih with h | ⟨b, h1, h2, h3⟩
        · exact Or.inl h
        · exact Or.inr ⟨b, by omega, h2, h3⟩
    · rw [if_neg hC]
      rcases ih with h | ⟨b, h1, h2, h3⟩
      · exact Or.inl h
      · exact Or.inr ⟨b, by omega, h2, h3⟩
theorem aM_cong {g g' : Nat → Nat} {C : Nat → Bool} : ∀ m, (∀ b, b < m → C b = true → g b = g' b) → aM g C m = aM g' C m := by
  intro m
  induction m with
  | zero => intro _; rfl
  | succ m ih =>
    intro h
    rw [aM, aM, ih (fun b hb hC => h b (by omega) hC)]
    by_cases hC : C m = true
    · rw [if_pos hC, if_pos hC, h m (by omega) hC]
    · rw [if_neg hC, if_neg hC]
def aL (E : Nat → Nat → Bool) : Nat → Nat → (Nat → Bool) → Nat
  | 0, _, _ => 0
  | d + 1, a, S => aM (fun b => aL E d b (ad1 S a)) (fun b => E a b && !(ad1 S a b)) 5 + 1
def rem5 (S : Nat → Bool) : Nat := (if S 0 = true then 0 else 1) + (if S 1 = true then 0 else 1) + (if S 2 = true then 0 else 1) + (if S 3 = true then 0 else 1) + (if S 4 = true then 0 else 1)
theorem rem_ad {S : Nat → Bool} {a : Nat} (h : S a = false) (ha : a < 5) : rem5 (ad1 S a) + 1 = rem5 S := by
  rcases (show a = 0 ∨ a = 1 ∨ a = 2 ∨ a = 3 ∨ a = 4 by omega) with rfl | rfl | rfl | rfl | rfl <;> simp [rem5, ad1, h] <;> omega
theorem rem_1 {b : Bool} : (if b = true then 0 else 1 : Nat) ≤ 1 := by cases b <;> decide
theorem rem_le {S : Nat → Bool} : rem5 S ≤ 5 := by
  have h0 := rem_1 (b := S 0)
  have h1 := rem_1 (b := S 1)
  have h2 := rem_1 (b := S 2)
  have h3 := rem_1 (b := S 3)
  have h4 := rem_1 (b := S 4)
  unfold rem5
  omega
theorem rem_lt {S : Nat → Bool} {p : Nat} (h : S p = true) (hp : p < 5) : rem5 S ≤ 4 := by
  have h0 := rem_1 (b := S 0)
  have h1 := rem_1 (b := S 1)
  have h2 := rem_1 (b := S 2)
  have h3 := rem_1 (b := S 3)
  have h4 := rem_1 (b := S 4)
  have e : (if S p = true then 0 else 1 : Nat) = 0 := if_pos h
  unfold rem5
  rcases (show p = 0 ∨ p = 1 ∨ p = 2 ∨ p = 3 ∨ p = 4 by omega) with rfl | rfl | rfl | rfl | rfl <;> omega
theorem vq_len : ∀ (L : List Nat) (S C : Nat → Bool), vq E S C L → (∀ x ∈ L, x < 5) → L.length ≤ rem5 S := by
  intro L
  induction L with
  | nil => intro _ _ _ _; exact Nat.zero_le _
  | cons a t ih =>
    intro S C h hx
    have := ih _ _ h.2.2 (fun x hx' => hx x (List.mem_cons_of_mem _ hx'))
    have e := rem_ad h.2.1 (hx a List.mem_cons_self)
    rw [List.length_cons]
    omega
theorem vq_C {S C C2 : Nat → Bool} : ∀ {L : List Nat}, (∀ b, C b = true → C2 b = true) → vq E S C L → vq E S C2 L := by
  intro L h hv
  cases L with
  | nil => trivial
  | cons a t => exact ⟨h a hv.1, hv.2⟩
theorem vq_S {S C : Nat → Bool} : ∀ {L : List Nat}, vq E S C L → vq E S (fun b => C b && !(S b)) L := by
  intro L hv
  cases L with
  | nil => trivial
  | cons a t => exact ⟨by show (C a && !(S a)) = true; rw [hv.1, hv.2.1]; rfl, hv.2⟩
theorem aL_up : ∀ (d : Nat) (a : Nat) (t : List Nat) (S C : Nat → Bool), vq E S C (a :: t) → (∀ x ∈ a :: t, x < 5) → (a :: t).length ≤ d → (a :: t).length ≤ aL E d a S := by
  intro d
  induction d with
  | zero => intro a t S C _ _ h; simp at h
  | succ d ih =>
    intro a t S C hv hx hd
    rw [aL]
    cases t with
    | nil => simp
    | cons b t' =>
      have h1 := ih b t' (ad1 S a) (E a) hv.2.2 (fun x hx' => hx x (List.mem_cons_of_mem _ hx')) (by simp only [List.length_cons] at hd ⊢; omega)
      have h2 := aM_ge (g := fun b => aL E d b (ad1 S a)) (C := fun b => E a b && !(ad1 S a b)) 5 b (hx b (by simp)) (by rw [hv.2.2.1, hv.2.2.2.1]; rfl)
      simp only [List.length_cons] at h1 ⊢
      have h3 : aL E d b (ad1 S a) ≤ aM (fun b => aL E d b (ad1 S a)) (fun b => E a b && !(ad1 S a b)) 5 := h2
      omega
theorem aL_ex : ∀ (d a : Nat) (S : Nat → Bool), 0 < d → S a = false → a < 5 → ∃ t : List Nat, (∀ C : Nat → Bool, C a = true → vq E S C (a :: t)) ∧ (∀ x ∈ a :: t, x < 5) ∧ (a :: t).length = aL E d a S := by
  intro d
  induction d with
  | zero => intro a S h; omega
  | succ d ih =>
    intro a S _ hS ha
    rw [aL]
    rcases aM_at (g := fun b => aL E d b (ad1 S a)) (C := fun b => E a b && !(ad1 S a b)) 5 with h | ⟨b, hb, hC, h⟩
    · refine ⟨[], fun C hC => ⟨hC, hS, trivial⟩, fun x hx => by simp at hx; omega, ?_⟩
      rw [h]; rfl
    · simp only [Bool.and_eq_true, Bool.not_eq_true'] at hC
      by_cases hd : d = 0
      · refine ⟨[], fun C hC => ⟨hC, hS, trivial⟩, fun x hx => by simp at hx; omega, ?_⟩
        rw [h, hd]; rfl
      · obtain ⟨t, h1, h2, h3⟩ := ih b (ad1 S a) (by omega) hC.2 hb
        refine ⟨b :: t, fun C hC' => ⟨hC', hS, h1 _ hC.1⟩, fun x hx => ?_, ?_⟩
        · rcases List.mem_cons.mp hx with rfl | hx
          · exact ha
          · exact h2 x hx
        · rw [List.length_cons, h3, h]
theorem aL_45 {S : Nat → Bool} {p b : Nat} (hp : S p = true) (hp5 : p < 5) (hb : S b = false) (hb5 : b < 5) : aL E 4 b S = aL E 5 b S := by
  obtain ⟨t, h1, h2, h3⟩ := aL_ex (E := E) 5 b S (by omega) hb hb5
  obtain ⟨t', g1, g2, g3⟩ := aL_ex (E := E) 4 b S (by omega) hb hb5
  have v := h1 (fun _ => true) rfl
  have v' := g1 (fun _ => true) rfl
  have l1 := vq_len _ _ _ v h2
  have l2 := vq_len _ _ _ v' g2
  have r := rem_lt hp hp5
  have u1 := aL_up 4 b t S _ v h2 (by omega)
  have u2 := aL_up 5 b t' S _ v' g2 (by omega)
  omega
def aP (E : Nat → Nat → Bool) (S C : Nat → Bool) : Nat → Option Nat × Nat
  | 0 => (none, 0)
  | b + 1 => if (if C b = true then aL E 5 b S else 0) ≤ (aP E S C b).2 then aP E S C b else (some b, if C b = true then aL E 5 b S else 0)
theorem aP_2 {S C : Nat → Bool} : ∀ m, (aP E S C m).2 = aM (fun b => aL E 5 b S) C m := by
  intro m
  induction m with
  | zero => rfl
  | succ m ih =>
    rw [aP, aM]
    by_cases hC : C m = true
    · rw [if_pos hC, if_pos hC]
      by_cases h : aL E 5 m S ≤ (aP E S C m).2
      · rw [if_pos h, ih, if_neg (by rw [← ih]; omega)]
      · rw [if_neg h, if_pos (by rw [← ih]; omega)]
    · rw [if_neg hC, if_neg hC, if_pos (Nat.zero_le _), ih]
theorem aP_1 {S C : Nat → Bool} : ∀ m, ((aP E S C m).1 = none ∧ (aP E S C m).2 = 0) ∨ ∃ p, p < m ∧ (aP E S C m).1 = some p ∧ C p = true ∧ (aP E S C m).2 = aL E 5 p S ∧ ∀ b, b < p → C b = true → aL E 5 b S < (aP E S C m).2 := by
  intro m
  induction m with
  | zero => exact Or.inl ⟨rfl, rfl⟩
  | succ m ih =>
    rw [aP]
    by_cases h : (if C m = true then aL E 5 m S else 0) ≤ (aP E S C m).2
    · rw [if_pos h]
      rcases ih with h | ⟨p, h1, h2⟩
      · exact Or.inl h
      · exact Or.inr ⟨p, by omega, h2⟩
    · rw [if_neg h]
      have hC : C m = true := by
        by_cases hC : C m = true
        · exact hC
        · rw [if_neg hC] at h; omega
      rw [if_pos hC] at h ⊢
      refine Or.inr ⟨m, by omega, rfl, hC, rfl, fun b hb hCb => ?_⟩
      have := aM_ge (g := fun b => aL E 5 b S) m b hb hCb
      rw [aP_2] at h
      show aL E 5 b S < aL E 5 m S
      have this' : aL E 5 b S ≤ aM (fun b => aL E 5 b S) C m := this
      omega
def aG (E : Nat → Nat → Bool) : Nat → (Nat → Bool) → (Nat → Bool) → List Nat
  | 0, _, _ => []
  | f + 1, S, C => match (aP E S C 5).1 with
    | none => []
    | some p => p :: aG E f (ad1 S p) (fun b => E p b && !(ad1 S p b))
def cd : List Nat → Nat
  | [] => 0
  | a :: t => a * 5 ^ t.length + cd t
theorem cd_lt : ∀ {L : List Nat}, (∀ x ∈ L, x < 5) → cd L < 5 ^ L.length := by
  intro L
  induction L with
  | nil => intro _; exact Nat.one_pos
  | cons a t ih =>
    intro h
    have h1 := ih (fun x hx => h x (List.mem_cons_of_mem _ hx))
    have h2 : a ≤ 4 := by have := h a List.mem_cons_self; omega
    rw [cd, List.length_cons, Nat.pow_succ]
    have h3 : a * 5 ^ t.length ≤ 4 * 5 ^ t.length := Nat.mul_le_mul_right _ h2
    omega
theorem vq_le {S C : Nat → Bool} {L : List Nat} (hv : vq E S C L) (hx : ∀ x ∈ L, x < 5) : L.length ≤ aM (fun b => aL E 5 b S) C 5 := by
  cases L with
  | nil => exact Nat.zero_le _
  | cons b t =>
    have h1 := vq_len _ _ _ hv hx
    have h2 := aL_up 5 b t S C hv hx (Nat.le_trans h1 rem_le)
    have h3 := aM_ge (g := fun b => aL E 5 b S) (C := C) 5 b (hx b List.mem_cons_self) hv.1
    exact Nat.le_trans h2 h3
theorem aG_spec : ∀ (f : Nat) (S C : Nat → Bool), (∀ b, b < 5 → C b = true → S b = false) → aM (fun b => aL E 5 b S) C 5 ≤ f → (aG E f S C).length = aM (fun b => aL E 5 b S) C 5 ∧ vq E S C (aG E f S C) ∧ (∀ x ∈ aG E f S C, x < 5) ∧
    ∀ L : List Nat, vq E S C L → (∀ x ∈ L, x < 5) → L.length = aM (fun b => aL E 5 b S) C 5 → cd (aG E f S C) ≤ cd L := by
  intro f
  induction f with
  | zero =>
    intro S C _ h
    refine ⟨by rw [aG]; simp; omega, trivial, fun x hx => by simp [aG] at hx, fun L _ _ _ => Nat.zero_le _⟩
  | succ f ih =>
    intro S C hCS hM
    rcases aP_1 (E := E) (S := S) (C := C) 5 with ⟨h1, h2⟩ | ⟨p, hp, h1, hC, h2, hl⟩
    · rw [aP_2] at h2
      have eG : aG E (f + 1) S C = [] := by rw [aG, h1]
      rw [eG]
      exact ⟨h2.symm, trivial, fun x hx => by simp at hx, fun L _ _ _ => Nat.zero_le _⟩
    · rw [aP_2] at h2 hl
      have eG : aG E (f + 1) S C = p :: aG E f (ad1 S p) (fun b => E p b && !(ad1 S p b)) := by rw [aG, h1]
      rw [eG]
      have hSp := hCS p hp hC
      have hpS : ad1 S p p = true := by simp [ad1]
      have eq4 : aM (fun b => aL E 5 b (ad1 S p)) (fun b => E p b && !(ad1 S p b)) 5 = aM (fun b => aL E 4 b (ad1 S p)) (fun b => E p b && !(ad1 S p b)) 5 := by
        refine aM_cong 5 (fun b hb hCb => ?_)
        simp only [Bool.and_eq_true, Bool.not_eq_true'] at hCb
        exact (aL_45 hpS hp hCb.2 hb).symm
      have e5 : aL E 5 p S = aM (fun b => aL E 4 b (ad1 S p)) (fun b => E p b && !(ad1 S p b)) 5 + 1 := by rw [aL]
      have eM : aM (fun b => aL E 5 b (ad1 S p)) (fun b => E p b && !(ad1 S p b)) 5 + 1 = aM (fun b => aL E 5 b S) C 5 := by
        rw [h2, e5, eq4]
      obtain ⟨i1, i2, i3, i4⟩ := ih (ad1 S p) (fun b => E p b && !(ad1 S p b)) (fun b _ hb => by simp only [Bool.and_eq_true, Bool.not_eq_true'] at hb; exact hb.2) (by omega)
      have hlen1 : (p :: aG E f (ad1 S p) (fun b => E p b && !(ad1 S p b))).length = aM (fun b => aL E 5 b S) C 5 := by rw [List.length_cons, i1]; exact eM
      refine ⟨hlen1, ⟨hC, hSp, vq_C (fun b hb => by simp only [Bool.and_eq_true] at hb; exact hb.1) i2⟩, fun x hx => ?_, fun L hv hx hlen => ?_⟩
      · rcases List.mem_cons.mp hx with rfl | hx
        · exact hp
        · exact i3 x hx
      · cases L with
        | nil => simp at hlen; omega
        | cons b t =>
          have hb5 := hx b List.mem_cons_self
          have hx' : ∀ x ∈ t, x < 5 := fun x hx' => hx x (List.mem_cons_of_mem _ hx')
          have hle := aL_up 5 b t S C hv hx (Nat.le_trans (vq_len _ _ _ hv hx) rem_le)
          have hbp : p ≤ b := by
            refine Nat.not_lt.mp (fun q => ?_)
            have := hl b q hv.1
            omega
          rw [List.length_cons] at hlen
          have et : t.length = (aG E f (ad1 S p) (fun b => E p b && !(ad1 S p b))).length := by rw [i1]; omega
          rw [cd, cd, et]
          by_cases e : b = p
          · subst e
            have := i4 t (vq_S hv.2.2) hx' (by omega)
            omega
          · have h5 := cd_lt i3
            have h6 : (p + 1) * 5 ^ (aG E f (ad1 S p) (fun b => E p b && !(ad1 S p b))).length ≤ b * 5 ^ (aG E f (ad1 S p) (fun b => E p b && !(ad1 S p b))).length := Nat.mul_le_mul_right _ (by omega)
            rw [Nat.add_mul] at h6
            omega
end
