/-! PURE: cut -/
section
variable {l : Launch} {σ μ : oS} {n r u : Nat}
theorem pc_mt {a b p q : Int32} (hab : ¬ a = b) (hpq : ¬ p = q) : (((if a = p then (1 : Int32) else if b = p then 1 else 0) == 1 && (if a = q then (1 : Int32) else if b = q then 1 else 0) == 1) = true) ↔ ((a = p ∧ b = q) ∨ (a = q ∧ b = p)) := by
  by_cases h1 : a = p
  · subst h1
    by_cases h4 : b = q
    · subst h4; simp [hab]
    · simp [h4, hpq]
  · by_cases h2 : b = p
    · subst h2
      by_cases h3 : a = q
      · subst h3; simp [h1]
      · simp [h1, h3, hpq]
    · simp [h1, h2]
theorem pc_hc (ha : pLa σ μ n r u) (hc : pLc σ μ u) (hd : pLd σ μ n u) {j t : Nat} (hj : j < 5) (ht : t < 5) (hjt : j ≠ t) : ∀ m, m ≤ u → (ls_hc σ j t m = true ↔ ∃ k, k < m ∧ mo_mt μ (nI j) (nI t) k) := by
  intro m
  induction m with
  | zero => intro _; simp [ls_hc]
  | succ m ih =>
    intro hm
    obtain ⟨-, -, -, q4⟩ := hc m (by have := ha.2.2.1; omega)
    obtain ⟨d1, d2, d3, -⟩ := hd.2 m (by omega)
    obtain ⟨o1, o2, o3, o4⟩ := hd.1 m (by omega)
    have hab : ¬ μ 15 0 m = μ 16 0 m := by rw [o1, o3]; intro q; exact d3 ((nI_eq (by omega) (by omega)).mp q)
    have hpq : ¬ nI j = nI t := fun q => hjt ((nI_eq (by omega) (by omega)).mp q)
    have e : ((σ 3 (m + 4) j == 1 && σ 3 (m + 4) t == 1) = true) ↔ mo_mt μ (nI j) (nI t) m := by
      rw [(q4 j hj).2, (q4 t ht).2, if_pos (by omega), if_pos (by omega), mo_f0, mo_f0]
      exact pc_mt hab hpq
    rw [ls_hc, Bool.or_eq_true, ih (by omega), e]
    constructor
    · rintro (⟨k, hk, h⟩ | h)
      · exact ⟨k, by omega, h⟩
      · exact ⟨m, by omega, h⟩
    · rintro ⟨k, hk, h⟩
      by_cases hkm : k = m
      · subst hkm; exact Or.inr h
      · exact Or.inl ⟨k, by omega, h⟩
theorem pc_fc {x y : Int32} (m : Nat) : mo_fc μ x y m = 0 ↔ (4 ≤ μ 3 0 0 ∨ ∃ k, k < m ∧ mo_mt μ x y k) := by
  induction m with
  | zero =>
    unfold mo_fc
    by_cases h : 4 ≤ μ 3 0 0
    · simp [h]
    · simp [h]
  | succ m ih =>
    unfold mo_fc
    by_cases h : mo_mt μ x y m
    · rw [if_pos h]
      exact ⟨fun _ => Or.inr ⟨m, by omega, h⟩, fun _ => rfl⟩
    · rw [if_neg h, ih]
      constructor
      · rintro (q | ⟨k, hk, q⟩)
        · exact Or.inl q
        · exact Or.inr ⟨k, by omega, q⟩
      · rintro (q | ⟨k, hk, q⟩)
        · exact Or.inl q
        · by_cases e : k = m
          · subst e; exact absurd q h
          · exact Or.inr ⟨k, by omega, q⟩
set_option maxHeartbeats 2000000 in
theorem s_cut (hfl : l.flags = pinnedFlags ++ [noTraceFlag]) : st_cut l pR := by
  intro σ μ h x y D cI cL cZ cJ ad am o fj
  obtain ⟨n, r, u, hL, hS⟩ := id h
  obtain ⟨ha, hb, hc, hd, he, hf⟩ := pL_iff.mp hL
  obtain ⟨hn, hr, hu, e1, e2, e3, e4, e5, e6⟩ := id ha
  rcases pc_p hL x y with ⟨a, b1, b2, b3, j, t, hj, ht, hjt, rfl, rfl⟩ | ⟨a, b⟩
  · have hh := pc_hc ha hc hd (j := j) (t := t) (by omega) (by omega) hjt u (Nat.le_refl _)
    have hff := pc_fc (μ := μ) (x := nI j) (y := nI t) u
    by_cases g : σ 10 0 0 < 4 ∧ ls_hc σ j t u = false
    · have gu : u < 4 := by
        rcases lt4' hu with q | q
        · exact q.2
        · exact absurd g.1 (by rw [e5]; exact q.1)
      have g4 : mo_fc μ (nI j) (nI t) u = 1 := by
        refine mo_fc_b.resolve_left (fun q => ?_)
        rcases hff.mp q with q | q
        · rw [e6] at q; exact absurd q (nI_ge (a := u) (b := 4) gu (by decide))
        · rw [hh.mpr q] at g; exact absurd g.2 (by decide)
      refine ⟨_, _, _, 0, _, _, _, (by exact ⟨rfl, rfl, Nat.le_of_ble_eq_true rfl, Nat.le_of_ble_eq_true rfl⟩), w_cut_0 σ e3 e5 hr hu e1 hn gu rfl (by omega) rfl (by omega) a g.2, (by exact ⟨rfl, rfl, Nat.le_of_ble_eq_true rfl, Nat.le_of_ble_eq_true rfl⟩), c_Mo_cut μ e6 hu gu b1 b2 b3 g4, ?_, fun _ => if_pos rfl, p_begin (u := u + 1) (pL_iff.mpr ⟨?_, ?_, ?_, ?_, ?_, ?_⟩)⟩
      · rw [mo_a_c (by decide), mo_z_c (by decide), u3_c (by decide), u3_c (by decide), u3_c (by decide), u3_s]
      · exact ⟨hn, hr, by omega, by rw [ls_z_c (by decide), u3_c (by decide), u3_c (by decide), u3_c (by decide), u3_c (by decide)]; exact e1, by rw [mo_z_c (by decide), u3_c (by decide), u3_c (by decide), u3_c (by decide), u3_c (by decide)]; exact e2, by rw [ls_z_c (by decide), u3_c (by decide), u3_c (by decide), u3_c (by decide), u3_c (by decide)]; exact e3, by rw [mo_z_c (by decide), u3_c (by decide), u3_c (by decide), u3_c (by decide), u3_c (by decide)]; exact e4, by rw [ls_z_c (by decide), u3_s], by rw [mo_z_c (by decide), u3_s]⟩
      · exact pLb_of hb (fun c hc => by rw [ls_z_c (by rintro rfl; simp at hc), u3_c (by rintro rfl; simp at hc), u3_c (by rintro rfl; simp at hc), u3_c (by rintro rfl; simp at hc), u3_c (by rintro rfl; simp at hc)]) (fun c hc => by rw [mo_z_c (by rintro rfl; simp at hc), u3_c (by rintro rfl; simp at hc), u3_c (by rintro rfl; simp at hc), u3_c (by rintro rfl; simp at hc), u3_c (by rintro rfl; simp at hc)])
      · intro k hk
        obtain ⟨q1, q2, q3, q4⟩ := hc k hk
        have s3 : ∀ i j', ls_z (u3 (u3 (u3 (u3 σ 5 (u + 4) 0 (if σ 1 0 j < σ 1 0 t then σ 1 0 t else σ 1 0 j)) 3 (u + 4) j 1) 3 (u + 4) t 1) 10 0 0 (nI (u + 1))) r (r + (u + 1)) 3 i j' = if i = u + 4 ∧ j' = t then 1 else if i = u + 4 ∧ j' = j then 1 else σ 3 i j' := fun i j' => by
          rw [ls_z_c (by decide), u3_c (by decide), u3_at, u3_at, u3_c (by decide)]; simp
        have s4 : ls_z (u3 (u3 (u3 (u3 σ 5 (u + 4) 0 (if σ 1 0 j < σ 1 0 t then σ 1 0 t else σ 1 0 j)) 3 (u + 4) j 1) 3 (u + 4) t 1) 10 0 0 (nI (u + 1))) r (r + (u + 1)) 4 = σ 4 := by rw [ls_z_c (by decide), u3_c (by decide), u3_c (by decide), u3_c (by decide), u3_c (by decide)]
        have s5 : ls_z (u3 (u3 (u3 (u3 σ 5 (u + 4) 0 (if σ 1 0 j < σ 1 0 t then σ 1 0 t else σ 1 0 j)) 3 (u + 4) j 1) 3 (u + 4) t 1) 10 0 0 (nI (u + 1))) r (r + (u + 1)) 5 k = σ 5 k := by rw [ls_z_c (by decide), u3_c (by decide), u3_c (by decide), u3_c (by decide), u3_i (by omega)]
        have mm : ∀ c, c ∈ [12, 13, 14] → mo_z (u3 (u3 (u3 (u3 μ 0 0 0 0) 15 0 u (nI j)) 16 0 u (nI t)) 3 0 0 (nI (u + 1))) 8 c = μ c := fun c hc => by rw [mo_z_c (by rintro rfl; simp at hc), u3_c (by rintro rfl; simp at hc), u3_c (by rintro rfl; simp at hc), u3_c (by rintro rfl; simp at hc), u3_c (by rintro rfl; simp at hc)]
        have m15 : ∀ k, mo_z (u3 (u3 (u3 (u3 μ 0 0 0 0) 15 0 u (nI j)) 16 0 u (nI t)) 3 0 0 (nI (u + 1))) 8 15 0 k = if k = u then nI j else μ 15 0 k := fun k => by rw [mo_z_c (by decide), u3_c (by decide), u3_c (by decide), u3_at, u3_c (by decide)]; simp
        have m16 : ∀ k, mo_z (u3 (u3 (u3 (u3 μ 0 0 0 0) 15 0 u (nI j)) 16 0 u (nI t)) 3 0 0 (nI (u + 1))) 8 16 0 k = if k = u then nI t else μ 16 0 k := fun k => by rw [mo_z_c (by decide), u3_c (by decide), u3_at, u3_c (by decide), u3_c (by decide)]; simp
        rw [s4, s5, mm 12 (by decide), mm 13 (by decide), mm 14 (by decide)]
        refine ⟨q1, q2, q3, fun j' hj' => ⟨?_, ?_⟩⟩
        · rw [s3, if_neg (by omega), if_neg (by omega)]; exact (q4 j' hj').1
        · rw [s3, mo_f0, m15, m16]
          by_cases hku : k = u
          · rw [if_pos (show k < u + 1 by omega), if_pos hku, if_pos hku]
            by_cases j1 : j' = j
            · rw [if_neg (show ¬ (k + 4 = u + 4 ∧ j' = t) from fun q => hjt (j1.symm.trans q.2)), if_pos (show k + 4 = u + 4 ∧ j' = j from ⟨by omega, j1⟩), if_pos (show nI j = nI j' by rw [j1])]
            · rw [if_neg (show ¬ nI j = nI j' from fun q => j1 ((nI_eq (by omega) (by omega)).mp q).symm)]
              by_cases j2 : j' = t
              · rw [if_pos (show k + 4 = u + 4 ∧ j' = t from ⟨by omega, j2⟩), if_pos (show nI t = nI j' by rw [j2])]
              · rw [if_neg (show ¬ (k + 4 = u + 4 ∧ j' = t) from fun q => j2 q.2), if_neg (show ¬ (k + 4 = u + 4 ∧ j' = j) from fun q => j1 q.2), if_neg (show ¬ nI t = nI j' from fun q => j2 ((nI_eq (by omega) (by omega)).mp q).symm), (q4 j' hj').2, if_neg (show ¬ k < u by omega)]
          · rw [if_neg (show ¬ (k + 4 = u + 4 ∧ j' = t) by omega), if_neg (show ¬ (k + 4 = u + 4 ∧ j' = j) by omega), if_neg hku, if_neg hku, (q4 j' hj').2, mo_f0]
            by_cases hk2 : k < u
            · rw [if_pos hk2, if_pos (show k < u + 1 by omega)]
            · rw [if_neg hk2, if_neg (show ¬ k < u + 1 by omega)]
      · have m11 : mo_z (u3 (u3 (u3 (u3 μ 0 0 0 0) 15 0 u (nI j)) 16 0 u (nI t)) 3 0 0 (nI (u + 1))) 8 11 = μ 11 := by rw [mo_z_c (by decide), u3_c (by decide), u3_c (by decide), u3_c (by decide), u3_c (by decide)]
        have m15 : ∀ k, mo_z (u3 (u3 (u3 (u3 μ 0 0 0 0) 15 0 u (nI j)) 16 0 u (nI t)) 3 0 0 (nI (u + 1))) 8 15 0 k = if k = u then nI j else μ 15 0 k := fun k => by rw [mo_z_c (by decide), u3_c (by decide), u3_c (by decide), u3_at, u3_c (by decide)]; simp
        have m16 : ∀ k, mo_z (u3 (u3 (u3 (u3 μ 0 0 0 0) 15 0 u (nI j)) 16 0 u (nI t)) 3 0 0 (nI (u + 1))) 8 16 0 k = if k = u then nI t else μ 16 0 k := fun k => by rw [mo_z_c (by decide), u3_c (by decide), u3_at, u3_c (by decide), u3_c (by decide)]; simp
        have mA : ∀ k, mo_A (mo_z (u3 (u3 (u3 (u3 μ 0 0 0 0) 15 0 u (nI j)) 16 0 u (nI t)) 3 0 0 (nI (u + 1))) 8) k = if k = u then j else mo_A μ k := fun k => by
          unfold mo_A; rw [m15]; split
          · exact nI_clamp (by omega)
          · rfl
        have mB : ∀ k, mo_B (mo_z (u3 (u3 (u3 (u3 μ 0 0 0 0) 15 0 u (nI j)) 16 0 u (nI t)) 3 0 0 (nI (u + 1))) 8) k = if k = u then t else mo_B μ k := fun k => by
          unfold mo_B; rw [m16]; split
          · exact nI_clamp (by omega)
          · rfl
        refine ⟨fun k hk => ?_, fun k hk => ?_⟩
        · rw [mA, mB, m15, m16]
          by_cases hku : k = u
          · rw [if_pos hku, if_pos hku, if_pos hku, if_pos hku]; exact ⟨rfl, by omega, rfl, by omega⟩
          · rw [if_neg hku, if_neg hku, if_neg hku, if_neg hku]; exact hd.1 k (by omega)
        · rw [mo_r0, mA, mB, m11, ls_z_c (by decide), u3_c (by decide), u3_c (by decide), u3_c (by decide)]
          by_cases hku : k = u
          · subst hku
            rw [if_pos rfl, if_pos rfl, u3_s, hb.2.1]
            refine ⟨hj, ht, hjt, ?_⟩
            by_cases q1 : μ 11 0 j < μ 11 0 t
            · rw [if_pos q1, if_pos (by rw [Int32.le_iff_toInt_le]; rw [Int32.lt_iff_toInt_lt] at q1; omega)]
            · rw [if_neg q1]
              by_cases q2 : μ 11 0 j ≤ μ 11 0 t
              · rw [if_pos q2]
                apply Int32.toInt_inj.mp
                rw [Int32.lt_iff_toInt_lt] at q1
                rw [Int32.le_iff_toInt_le] at q2
                omega
              · rw [if_neg q2]
          · obtain ⟨q1, q2, q3, q4⟩ := hd.2 k (by omega)
            rw [if_neg hku, if_neg hku, u3_i (by omega), q4, mo_r0]
            exact ⟨q1, q2, q3, rfl⟩
      · intro k hk
        rw [ls_z_0 (by omega) (by omega), mo_z_0 (by omega)]
      · exact pLf_of hf (fun c hc => by rw [ls_z_c (by rintro rfl; simp at hc), u3_c (by rintro rfl; simp at hc), u3_c (by rintro rfl; simp at hc), u3_c (by rintro rfl; simp at hc), u3_c (by rintro rfl; simp at hc)]) (fun c hc => by rw [mo_z_c (by rintro rfl; simp at hc), u3_c (by rintro rfl; simp at hc), u3_c (by rintro rfl; simp at hc), u3_c (by rintro rfl; simp at hc), u3_c (by rintro rfl; simp at hc)])
    · refine ⟨_, _, _, 2, σ, _, _, (by exact ⟨rfl, rfl, Nat.le_of_ble_eq_true rfl, Nat.le_of_ble_eq_true rfl⟩), w_cut_2 hfl σ e3 e5 hr hu rfl (by omega) rfl (by omega) a g, (by exact ⟨rfl, rfl, Nat.le_of_ble_eq_true rfl, Nat.le_of_ble_eq_true rfl⟩), c_Mo_cut_2 μ e6 hu b1 b2 b3 ?_, u3_s, fun q => absurd q (by decide), pR_thr h⟩
      rw [hff]
      rcases lt4' hu with ⟨q1, q2⟩ | ⟨q1, q2⟩
      · refine Or.inr (hh.mp ?_)
        cases hb9 : ls_hc σ j t u with
        | true => rfl
        | false => exact absurd ⟨by rw [e5]; exact q1, hb9⟩ g
      · refine Or.inl ?_
        rw [e6, q2]
        decide
  · exact ⟨_, _, _, 1, σ, _, _, (by exact ⟨rfl, rfl, Nat.le_of_ble_eq_true rfl, Nat.le_of_ble_eq_true rfl⟩), w_cut_1 hfl σ a, (by exact ⟨rfl, rfl, Nat.le_of_ble_eq_true rfl, Nat.le_of_ble_eq_true rfl⟩), c_Mo_cut_1 μ ha.2.2.2.2.2.2.2.2 ha.2.2.1 b, u3_s, fun q => absurd q (by decide), pR_thr h⟩
end
