/-! PURE: the reference's chain in abstract words; chain agrees -/
section
variable {l : Launch} {σ μ : oS} {n r u : Nat} {E : Nat → Nat → Bool}
def wq (E : Nat → Nat → Bool) : List Nat → Prop
  | [] => True
  | a :: t => a ∉ t ∧ (∀ b, t.head? = some b → E a b = true) ∧ wq E t
def wN (n : Nat) (E : Nat → Nat → Bool) (L : List Nat) : Prop := (∀ x ∈ L, x < n) ∧ wq E L
theorem vq_wq : ∀ (L : List Nat) (S C : Nat → Bool), vq E S C L ↔ (∀ b, L.head? = some b → C b = true) ∧ (∀ x ∈ L, S x = false) ∧ wq E L := by
  intro L
  induction L with
  | nil => intro S C; exact ⟨fun _ => ⟨fun b h => by simp at h, fun x h => by simp at h, trivial⟩, fun _ => trivial⟩
  | cons a t ih =>
    intro S C
    constructor
    · rintro ⟨h1, h2, h3⟩
      obtain ⟨g1, g2, g3⟩ := (ih _ _).mp h3
      refine ⟨fun b h => by simp at h; subst h; exact h1, fun x hx => ?_, ⟨fun q => ?_, g1, g3⟩⟩
      · rcases List.mem_cons.mp hx with rfl | hx
        · exact h2
        · have := g2 x hx
          simp [ad1] at this
          exact this.1
      · have := g2 a q
        simp [ad1] at this
    · rintro ⟨h1, h2, h3, h4, h5⟩
      refine ⟨h1 a rfl, h2 a List.mem_cons_self, (ih _ _).mpr ⟨h4, fun x hx => ?_, h5⟩⟩
      have : x ≠ a := fun q => h3 (q ▸ hx)
      simp [ad1, h2 x (List.mem_cons_of_mem _ hx), this]
theorem wN_suf {pre L : List Nat} (h : wN n E (pre ++ L)) : wN n E L := by
  refine ⟨fun x hx => h.1 x (List.mem_append_right _ hx), ?_⟩
  have h2 := h.2
  clear h
  induction pre with
  | nil => exact h2
  | cons a t ih => exact ih h2.2.2
def dgs : Nat → Nat → List Nat
  | 0, _ => []
  | d + 1, R => dgs d (R / 5) ++ [R % 5]
theorem dgs_len : ∀ d R, (dgs d R).length = d := by
  intro d
  induction d with
  | zero => intro R; rfl
  | succ d ih => intro R; rw [dgs, List.length_append, ih]; rfl
theorem dgs_lt : ∀ d R x, x ∈ dgs d R → x < 5 := by
  intro d
  induction d with
  | zero => intro R x h; simp [dgs] at h
  | succ d ih =>
    intro R x h
    rw [dgs, List.mem_append] at h
    rcases h with h | h
    · exact ih _ _ h
    · simp at h; omega
theorem cd_snoc : ∀ (L : List Nat) (x : Nat), cd (L ++ [x]) = 5 * cd L + x := by
  intro L x
  induction L with
  | nil => simp [cd]
  | cons a t ih =>
    rw [List.cons_append, cd, cd, ih, List.length_append]
    show a * 5 ^ (t.length + 1) + _ = _
    rw [Nat.pow_succ, Nat.mul_comm (5 ^ t.length) 5, Nat.mul_left_comm]
    omega
theorem cd_dgs : ∀ d R, R < 5 ^ d → cd (dgs d R) = R := by
  intro d
  induction d with
  | zero => intro R h; simp at h; subst h; rfl
  | succ d ih =>
    intro R h
    rw [Nat.pow_succ] at h
    rw [dgs, cd_snoc, ih (R / 5) (by omega)]
    omega
theorem cd_inj : ∀ (L L' : List Nat), L.length = L'.length → (∀ x ∈ L, x < 5) → (∀ x ∈ L', x < 5) → cd L = cd L' → L = L' := by
  intro L
  induction L with
  | nil =>
    intro L' h _ _ _
    cases L' with
    | nil => rfl
    | cons => simp at h
  | cons a t ih =>
    intro L' h h1 h2 h3
    cases L' with
    | nil => simp at h
    | cons b t' =>
      simp only [List.length_cons, Nat.add_right_cancel_iff] at h
      have g1 := cd_lt (L := t) (fun x hx => h1 x (List.mem_cons_of_mem _ hx))
      have g2 := cd_lt (L := t') (fun x hx => h2 x (List.mem_cons_of_mem _ hx))
      rw [cd, cd, h] at h3
      rw [h] at g1
      have e : a = b := by
        rcases Nat.lt_trichotomy a b with q | q | q
        · have h6 : (a + 1) * 5 ^ t'.length ≤ b * 5 ^ t'.length := Nat.mul_le_mul_right _ q
          rw [Nat.add_mul] at h6
          omega
        · exact q
        · have h6 : (b + 1) * 5 ^ t'.length ≤ a * 5 ^ t'.length := Nat.mul_le_mul_right _ q
          rw [Nat.add_mul] at h6
          omega
      subst e
      rw [ih t' h (fun x hx => h1 x (List.mem_cons_of_mem _ hx)) (fun x hx => h2 x (List.mem_cons_of_mem _ hx)) (by omega)]
theorem mi_bit {y : Int32} {c : Nat} (hc : c < 5) : ((y >>> (nI c &&& 31)) &&& 1 = 1) ↔ bt y c = true := by
  have h := fo_bt (x := y) (b := c) (by omega)
  unfold fo_b at h
  by_cases e : bt y c = true
  · rw [if_pos e] at h
    refine ⟨fun _ => e, fun _ => ?_⟩
    by_cases q : (y >>> (nI c &&& 31)) &&& 1 = 1
    · exact q
    · rw [if_neg q] at h; exact absurd h (by decide)
  · rw [if_neg e] at h
    refine ⟨fun q => ?_, fun q => absurd q e⟩
    rw [if_pos q] at h; exact absurd h (by decide)
set_option maxHeartbeats 1000000 in
theorem mi_spec {m : Nat} (hm : m ≤ 5) (hn : n ≤ 5) : ∀ (d R : Nat) (y : Int32) (τ : oS) (L : List Nat), L.length + d = m → τ 18 = μ 18 → (∀ i, i < L.length → τ 22 0 (d + i) = nI (L.getD i 0)) → (∀ b, b < 5 → bt y b = decide (b ∈ L)) → wN n (Em μ) L →
    ((mi_l n m d R y τ).2 = 0 ↔ ¬ wN n (Em μ) (dgs d R ++ L)) ∧ (wN n (Em μ) (dgs d R ++ L) → ∀ i, i < m → (mi_l n m d R y τ).1 22 0 i = nI ((dgs d R ++ L).getD i 0)) := by
  intro d
  induction d with
  | zero =>
    intro R y τ L hlen h18 h22 hy hw
    refine ⟨⟨fun h => absurd h (show ¬ (1 : Int32) = 0 by decide), fun h => absurd hw h⟩, fun _ i hi => ?_⟩
    have := h22 i (by omega)
    rw [Nat.zero_add] at this
    exact this
  | succ d ih =>
    intro R y τ L hlen h18 h22 hy hw
    have hc : R % 5 < 5 := Nat.mod_lt _ (by decide)
    have eD : dgs (d + 1) R ++ L = dgs d (R / 5) ++ (R % 5 :: L) := by rw [dgs, List.append_assoc]; rfl
    rw [eD, mi_l]
    by_cases c1 : n ≤ R % 5
    · rw [if_pos c1]
      have no : ¬ wN n (Em μ) (dgs d (R / 5) ++ (R % 5 :: L)) := fun q => absurd ((wN_suf q).1 _ List.mem_cons_self) (by omega)
      exact ⟨⟨fun _ => no, fun _ => rfl⟩, fun q => absurd q no⟩
    · rw [if_neg c1]
      by_cases c2 : (y >>> (nI (R % 5) &&& 31)) &&& 1 = 1
      · rw [if_pos c2]
        have hmem : R % 5 ∈ L := by
          have := (mi_bit hc).mp c2
          rw [hy _ hc] at this
          exact of_decide_eq_true this
        have no : ¬ wN n (Em μ) (dgs d (R / 5) ++ (R % 5 :: L)) := fun q => (wN_suf q).2.1 hmem
        exact ⟨⟨fun _ => no, fun _ => rfl⟩, fun q => absurd q no⟩
      · rw [if_neg c2]
        have hnm : R % 5 ∉ L := fun q => c2 ((mi_bit hc).mpr (by rw [hy _ hc]; exact decide_eq_true q))
        by_cases c3 : d + 1 < m ∧ τ 18 0 (5 * (R % 5) + (τ 22 0 (d + 1)).toNatClampNeg) = 0
        · rw [if_pos c3]
          have no : ¬ wN n (Em μ) (dgs d (R / 5) ++ (R % 5 :: L)) := by
            intro q
            have q2 := (wN_suf q).2.2.1
            cases L with
            | nil => simp at hlen; omega
            | cons b t =>
              have hb : b < 5 := by have := hw.1 b List.mem_cons_self; omega
              have e22 := h22 0 (by simp)
              rw [Nat.add_zero] at e22
              have e22' : τ 22 0 (d + 1) = nI b := e22
              have := q2 b rfl
              unfold Em at this
              rw [decide_eq_true_eq] at this
              have z := c3.2
              rw [e22', nI_clamp (by omega), h18] at z
              exact this.2.2 z
          exact ⟨⟨fun _ => no, fun _ => rfl⟩, fun q => absurd q no⟩
        · rw [if_neg c3]
          refine ih (R / 5) _ _ (R % 5 :: L) (by simp only [List.length_cons]; omega) (by rw [u3_c (by decide)]; exact h18) (fun i hi => ?_) (fun b hb => ?_) ⟨fun x hx => ?_, hnm, fun b hb => ?_, hw.2⟩
          · cases i with
            | zero => rw [Nat.add_zero, u3_s]; rfl
            | succ i =>
              rw [u3_j (by omega), show d + (i + 1) = d + 1 + i by omega, h22 i (by simp only [List.length_cons] at hi; omega)]
              rfl
          · rw [cB_or hc (S := fun b => decide (b ∈ L)) (fun b hb => hy b hb) b hb]
            unfold ad1
            by_cases e : b = R % 5
            · subst e; simp
            · simp [e]
          · rcases List.mem_cons.mp hx with rfl | hx
            · omega
            · exact hw.1 x hx
          · cases L with
            | nil => simp at hb
            | cons b' t =>
              simp only [List.head?_cons, Option.some.injEq] at hb
              subst hb
              have hb5 : b' < 5 := by have := hw.1 b' List.mem_cons_self; omega
              have e22 := h22 0 (by simp)
              rw [Nat.add_zero] at e22
              have e22' : τ 22 0 (d + 1) = nI b' := e22
              unfold Em
              rw [decide_eq_true_eq]
              refine ⟨hc, hb5, fun z => c3 ⟨by simp only [List.length_cons] at hlen; omega, ?_⟩⟩
              rw [e22', nI_clamp (by omega), h18]
              exact z
theorem mh_spec {m : Nat} (hm : m ≤ 5) (hn : n ≤ 5) : ∀ (f c : Nat) (τ : oS), τ 18 = μ 18 → ((mh_c n m f c τ).2 = true → ∃ c', c ≤ c' ∧ c' < c + f ∧ wN n (Em μ) (dgs m c') ∧ (∀ c2, c ≤ c2 → c2 < c' → ¬ wN n (Em μ) (dgs m c2)) ∧ ∀ i, i < m → (mh_c n m f c τ).1 22 0 i = nI ((dgs m c').getD i 0)) ∧
    (¬ (mh_c n m f c τ).2 = true → ∀ c', c ≤ c' → c' < c + f → ¬ wN n (Em μ) (dgs m c')) := by
  intro f
  induction f with
  | zero => intro c τ _; exact ⟨fun h => absurd h (show ¬ false = true by decide), fun _ c' h1 h2 => by omega⟩
  | succ f ih =>
    intro c τ h18
    have sp := mi_spec (μ := μ) hm hn m c 0 τ [] (by simp) h18 (fun i hi => by simp at hi) (fun b _ => by rw [b_0]; simp) ⟨fun x hx => by simp at hx, trivial⟩
    rw [List.append_nil] at sp
    rw [mh_c]
    by_cases h : (mi_l n m m c 0 τ).2 = 0
    · rw [if_pos h]
      obtain ⟨a1, a2⟩ := ih (c + 1) (mi_l n m m c 0 τ).1 (by rw [mi_l_c (by decide)]; exact h18)
      have no := sp.1.mp h
      refine ⟨fun q => ?_, fun q c' h1 h2 => ?_⟩
      · obtain ⟨c', b1, b2, b3, b4, b5⟩ := a1 q
        refine ⟨c', by omega, by omega, b3, fun c2 d1 d2 => ?_, b5⟩
        by_cases e : c2 = c
        · subst e; exact no
        · exact b4 c2 (by omega) d2
      · by_cases e : c' = c
        · subst e; exact no
        · exact a2 q c' (by omega) (by omega)
    · rw [if_neg h]
      have yes : wN n (Em μ) (dgs m c) := Classical.byContradiction fun q => h (sp.1.mpr q)
      exact ⟨fun _ => ⟨c, Nat.le_refl _, by omega, yes, fun c2 d1 d2 => by omega, sp.2 yes⟩, fun q => absurd rfl q⟩
theorem mh_n_c {k m c : Nat} {τ : oS} (h : c ≠ 22) : (mh_n n k m τ).1 c = τ c := by
  induction m generalizing τ with
  | zero => rfl
  | succ m ih =>
    rw [mh_n]
    split
    · exact mh_c_c h
    · rw [ih, mh_c_c h]
theorem rem_n : ∀ n, n ≤ 5 → rem5 (fun x => decide (n ≤ x)) = n := by decide +kernel
set_option maxHeartbeats 1000000 in
theorem mh_top (hn : n ≤ 5) (hf : pLf σ μ n) {f k : Nat} (hf5 : 5 ≤ f) : (aG (Em μ) f (fun _ => false) (fun b => decide (b < n))).length ≤ n ∧ ∀ (m : Nat) (τ : oS), m ≤ 5 → (aG (Em μ) f (fun _ => false) (fun b => decide (b < n))).length ≤ m → τ 18 = μ 18 → (mh_n n k m τ).2 = oI (aG (Em μ) f (fun _ => false) (fun b => decide (b < n)))[k]? := by
  have hM5 : aM (fun b => aL (Em μ) 5 b (fun _ => false)) (fun b => decide (b < n)) 5 ≤ 5 := aM_le (fun b => aL_le 5 b _) 5
  obtain ⟨g1, g2, g3, g4⟩ := aG_spec (E := Em μ) f (fun _ => false) (fun b => decide (b < n)) (fun _ _ _ => rfl) (by omega)
  have hall : ∀ L : List Nat, vq (Em μ) (fun _ => false) (fun b => decide (b < n)) L ↔ wN n (Em μ) L := by
    intro L
    rw [vq_wq]
    constructor
    · rintro ⟨h1, -, h3⟩
      refine ⟨?_, h3⟩
      have key : ∀ (L : List Nat), (∀ b, L.head? = some b → b < n) → wq (Em μ) L → ∀ x ∈ L, x < n := by
        intro L
        induction L with
        | nil => intro _ _ x hx; simp at hx
        | cons a t ih =>
          intro ha hw x hx
          rcases List.mem_cons.mp hx with rfl | hx
          · exact ha _ rfl
          · refine ih (fun b hb => ?_) hw.2.2 x hx
            have := hw.2.1 b hb
            unfold Em at this
            rw [decide_eq_true_eq] at this
            exact ((hf.2 a b this.1 this.2.1).2 this.2.2).2.1
      exact key L (fun b hb => of_decide_eq_true (h1 b hb)) h3
    · rintro ⟨h1, h2⟩
      refine ⟨fun b hb => ?_, fun _ _ => rfl, h2⟩
      cases L with
      | nil => simp at hb
      | cons a t =>
        simp only [List.head?_cons, Option.some.injEq] at hb
        subst hb
        exact decide_eq_true (h1 _ List.mem_cons_self)
  have hG := (hall _).mp g2
  generalize hg : aG (Em μ) f (fun _ => false) (fun b => decide (b < n)) = G at *
  have hGn : G.length ≤ n := by
    have v : vq (Em μ) (fun x => decide (n ≤ x)) (fun _ => true) G := (vq_wq _ _ _).mpr ⟨fun _ _ => rfl, fun x hx => by have := hG.1 x hx; exact decide_eq_false (by omega), hG.2⟩
    have := vq_len _ _ _ v g3
    rw [rem_n n hn] at this
    exact this
  refine ⟨hGn, ?_⟩
  intro m
  induction m with
  | zero =>
    intro τ _ h _
    have : G = [] := List.eq_nil_of_length_eq_zero (by omega)
    rw [this]; rfl
  | succ m ih =>
    intro τ hm5 hm h18
    obtain ⟨s1, s2⟩ := mh_spec (μ := μ) (m := m + 1) hm5 hn (5 ^ (m + 1)) 0 τ h18
    rw [mh_n]
    by_cases hb : (mh_c n (m + 1) (5 ^ (m + 1)) 0 τ).2 = true
    · rw [if_pos hb]
      obtain ⟨c', -, b2, b3, b4, b5⟩ := s1 hb
      have hD5 : ∀ x ∈ dgs (m + 1) c', x < 5 := dgs_lt _ _
      have hle := vq_le ((hall _).mpr b3) hD5
      rw [dgs_len, ← g1] at hle
      have hlen : G.length = m + 1 := by omega
      have hmin := g4 (dgs (m + 1) c') ((hall _).mpr b3) hD5 (by rw [dgs_len, ← g1]; omega)
      rw [cd_dgs (m + 1) c' (by omega)] at hmin
      have hlt := cd_lt g3
      rw [hlen] at hlt
      have eqG : dgs (m + 1) (cd G) = G := cd_inj _ _ (by rw [dgs_len, hlen]) (dgs_lt _ _) g3 (cd_dgs _ _ hlt)
      have hc : c' = cd G := by
        refine Nat.le_antisymm (Nat.not_lt.mp (fun q => b4 (cd G) (Nat.zero_le _) q (by rw [eqG]; exact hG))) hmin
      show (if m + 1 ≤ k then (-1 : Int32) else _) = _
      by_cases hk : m + 1 ≤ k
      · rw [if_pos hk, List.getElem?_eq_none (by omega)]; rfl
      · rw [if_neg hk, b5 k (by omega), hc, eqG, List.getD_eq_getElem?_getD, List.getElem?_eq_getElem (by omega)]
        rfl
    · rw [if_neg hb]
      refine ih _ (by omega) ?_ (by rw [mh_c_c (by decide)]; exact h18)
      refine Nat.le_of_lt_succ (Nat.lt_of_le_of_ne hm (fun q => ?_))
      have hlt := cd_lt g3
      rw [q] at hlt
      have eqG : dgs (m + 1) (cd G) = G := cd_inj _ _ (by rw [dgs_len, q]) (dgs_lt _ _) g3 (cd_dgs _ _ hlt)
      exact s2 hb (cd G) (Nat.zero_le _) (by omega) (by rw [eqG]; exact hG)
set_option maxHeartbeats 1000000 in
theorem s_chain (hfl : l.flags = pinnedFlags ++ [noTraceFlag]) : st_chain l pR := by
  intro σ μ h x D cI cL cZ cJ ad am o fj
  obtain ⟨n, r, u, hL, hS⟩ := id h
  obtain ⟨ha, hb, hc, hd, he, hf⟩ := pL_iff.mp hL
  obtain ⟨hn, hr, hu, e1, e2, e3, e4, e5, e6⟩ := id ha
  by_cases x0 : x < 0
  · exact ⟨_, _, _, 1, σ, _, _, (by exact ⟨rfl, rfl, Nat.le_of_ble_eq_true rfl, Nat.le_of_ble_eq_true rfl⟩), w_chain_1 hfl σ (fun q => by rw [Int32.le_iff_toInt_le] at q; rw [Int32.lt_iff_toInt_lt] at x0; omega), (by exact ⟨rfl, rfl, Nat.le_of_ble_eq_true rfl, Nat.le_of_ble_eq_true rfl⟩), c_Mo_chain_1 μ x0, u3_s, fun q => absurd q (by decide), pR_thr h⟩
  · obtain ⟨k, hk, rfl⟩ := nI_of x0
    obtain ⟨t1, t2⟩ := mh_top (σ := σ) (μ := μ) (n := n) (f := k + 6) (k := k) hn hf (by omega)
    have eM := t2 n (u3 μ 0 0 0 0) hn t1 (u3_c (by decide))
    have eC : (if n ≤ k then (-1 : Int32) else fo_a σ (k + 1) 0 ((1 <<< (σ 2 0 0 &&& 31)) - 1) (-1)) = (mh_n n k n (u3 μ 0 0 0 0)).2 := by
      rw [eM]
      by_cases q : n ≤ k
      · rw [if_pos q, List.getElem?_eq_none (by omega)]; rfl
      · rw [if_neg q]; exact fo_top ha hf (by omega)
    have cw := w_chain_0 (l := l) (D := D) (cI := cI) (cL := cL) (cJ := cJ) (ad := ad) (o := o) (fj := fj) σ e1 hn (k := k) rfl hk (nI_pos' hk)
    rw [eC] at cw
    refine ⟨_, _, _, 0, σ, _, _, (by exact ⟨rfl, rfl, Nat.le_of_ble_eq_true rfl, Nat.le_of_ble_eq_true rfl⟩), cw, (by exact ⟨rfl, rfl, Nat.le_of_ble_eq_true rfl, Nat.le_of_ble_eq_true rfl⟩), c_Mo_chain μ e2 hn (k := k) rfl hk, ?_, fun _ => if_pos rfl, pR_mu h (fun c h0 h22 _ => ?_)⟩
    · rw [mh_n_c (by decide), u3_s]
    · rw [mh_n_c h22, u3_c h0]
end
