/-! THE CLASS'S WORLD. The state σ: component, line, place; cell k lies at ad k. cells: 0 OrderBounds, 1 Columns, 2 worths, 3 tops, 4 Lines, 5 rows, 6 cuts, 7 Search, 8 numbers, 9 bestNumbers, 10 worths, 11 hopes, 12 Follows, 13 behind, 4 i + 14 line i (0 .. 3 rows, 4 .. 7 cuts), 4 i + 15 its factors, 4 i + 16 sums, 4 i + 17 helps.
components: 0 worths, 1 tops, 2 count; of line i: 3 factors, 4 kind, 5 right, 6 weight, 7 sums, 8 helps; 9 rowCount, 10 cutCount; 11 numbers, 12 bestNumbers, 13 worths, 14 hopes, 15 at, 16 steps, 17 found, 18 bestWorth; 19 behind, 20 count -/
abbrev oS : Type := Nat → Nat → Nat → Int32
def uA (σ : oS) (c i : Nat) (f : Nat → Int32) : oS := fun c9 i9 => if c9 = c ∧ i9 = i then f else σ c9 i9
def u3 (σ : oS) (c i j : Nat) (v : Int32) : oS := uA σ c i (upd (σ c i) j v)
theorem uA_s {σ : oS} {c i : Nat} {f : Nat → Int32} : uA σ c i f c i = f := by simp [uA]
theorem uA_n {σ : oS} {c i : Nat} {f : Nat → Int32} {c9 i9 : Nat} (h : ¬ (c9 = c ∧ i9 = i)) : uA σ c i f c9 i9 = σ c9 i9 := by simp only [uA, if_neg h]
theorem u3_s {σ : oS} {c i j : Nat} {v : Int32} : u3 σ c i j v c i j = v := by simp [u3, uA, upd]
theorem u3_j {σ : oS} {c i j j9 : Nat} {v : Int32} (h : j9 ≠ j) : u3 σ c i j v c i j9 = σ c i j9 := by simp [u3, uA, upd, h]
theorem u3_i {σ : oS} {c i j : Nat} {v : Int32} {i9 : Nat} (h : i9 ≠ i) : u3 σ c i j v c i9 = σ c i9 := by simp [u3, uA, h]
theorem u3_c {σ : oS} {c i j : Nat} {v : Int32} {c9 : Nat} (h : c9 ≠ c) : u3 σ c i j v c9 = σ c9 := by funext i9; simp [u3, uA, h]
theorem u3_at {σ : oS} {c i j : Nat} {v : Int32} {c9 i9 j9 : Nat} : u3 σ c i j v c9 i9 j9 = if c9 = c ∧ i9 = i ∧ j9 = j then v else σ c9 i9 j9 := by
  by_cases h : c9 = c ∧ i9 = i
  · obtain ⟨rfl, rfl⟩ := h
    simp [u3, uA, upd]
  · rw [show u3 σ c i j v c9 i9 = σ c9 i9 from uA_n h, if_neg (fun q => h ⟨q.1, q.2.1⟩)]
def ob_b (cI cL : ClassId) (ad : Nat → Nat) (σ : oS) (k : Nat) : va_E := match k with
  | 0 => .inr (5, [.ref (ad 1), .ref (ad 4), .ref (ad 7), .ref (ad 12)])
  | 1 => .inr (0, [.ref (ad 2), .ref (ad 3), .int (σ 2 0 0)])
  | 2 => .inl (cI, 5, .inl (σ 0 0))
  | 3 => .inl (cI, 5, .inl (σ 1 0))
  | 4 => .inr (2, [.ref (ad 5), .ref (ad 6), .int (σ 9 0 0), .int (σ 10 0 0)])
  | 5 => .inl (cL, 4, .inr (.inr (.inr (.inr (fun q => some (ad (4 * q + 14)))))))
  | 6 => .inl (cL, 4, .inr (.inr (.inr (.inr (fun q => some (ad (4 * (q + 4) + 14)))))))
  | 7 => .inr (3, [.ref (ad 1), .ref (ad 4), .ref (ad 8), .ref (ad 9), .ref (ad 10), .ref (ad 11), .int (σ 15 0 0), .int (σ 16 0 0), .int (σ 17 0 0), .int (σ 18 0 0)])
  | 8 => .inl (cI, 5, .inl (σ 11 0))
  | 9 => .inl (cI, 5, .inl (σ 12 0))
  | 10 => .inl (cI, 6, .inl (σ 13 0))
  | 11 => .inl (cI, 6, .inl (σ 14 0))
  | 12 => .inr (4, [.ref (ad 13), .int (σ 20 0 0)])
  | _ => .inl (cI, 5, .inl (σ 19 0))
def ob_l (cI : ClassId) (ad : Nat → Nat) (σ : oS) (i j : Nat) : va_E := match j with
  | 0 => .inr (1, [.ref (ad (4 * i + 15)), .int (σ 4 i 0), .int (σ 5 i 0), .int (σ 6 i 0), .ref (ad (4 * i + 16)), .ref (ad (4 * i + 17))])
  | 1 => .inl (cI, 5, .inl (σ 3 i))
  | 2 => .inl (cI, 6, .inl (σ 7 i))
  | _ => .inl (cI, 6, .inl (σ 8 i))
def oc (cI cL : ClassId) (ad : Nat → Nat) (σ : oS) (k : Nat) : va_E := if k < 14 then ob_b cI cL ad σ k else ob_l cI ad σ ((k - 14) / 4) ((k - 14) % 4)
def ow (cI cL : ClassId) (ad : Nat → Nat) (σ : oS) : va_W := fw 46 ad (oc cI cL ad σ)
abbrev ot (cI cL : ClassId) : List (ClassId × FieldType) := [(cI, .int), (cL, .object "OrderBounds$Line")]
/-- the cell of a component -/
def ob_k (c i : Nat) : Nat := match c with
  | 0 => 2
  | 1 => 3
  | 2 => 1
  | 3 => 4 * i + 15
  | 4 => 4 * i + 14
  | 5 => 4 * i + 14
  | 6 => 4 * i + 14
  | 7 => 4 * i + 16
  | 8 => 4 * i + 17
  | 9 => 4
  | 10 => 4
  | 11 => 8
  | 12 => 9
  | 13 => 10
  | 14 => 11
  | 15 => 7
  | 16 => 7
  | 17 => 7
  | 18 => 7
  | 19 => 13
  | _ => 12
section OW
variable {cI cL : ClassId} {ad : Nat → Nat} {σ τ : oS}
theorem oc_l0 {i : Nat} : oc cI cL ad σ (4 * i + 14) = ob_l cI ad σ i 0 := by
  unfold oc
  rw [if_neg (by omega), show (4 * i + 14 - 14) / 4 = i by omega, show (4 * i + 14 - 14) % 4 = 0 by omega]
theorem oc_l1 {i : Nat} : oc cI cL ad σ (4 * i + 15) = ob_l cI ad σ i 1 := by
  unfold oc
  rw [if_neg (by omega), show (4 * i + 15 - 14) / 4 = i by omega, show (4 * i + 15 - 14) % 4 = 1 by omega]
theorem oc_l2 {i : Nat} : oc cI cL ad σ (4 * i + 16) = ob_l cI ad σ i 2 := by
  unfold oc
  rw [if_neg (by omega), show (4 * i + 16 - 14) / 4 = i by omega, show (4 * i + 16 - 14) % 4 = 2 by omega]
theorem oc_l3 {i : Nat} : oc cI cL ad σ (4 * i + 17) = ob_l cI ad σ i 3 := by
  unfold oc
  rw [if_neg (by omega), show (4 * i + 17 - 14) / 4 = i by omega, show (4 * i + 17 - 14) % 4 = 3 by omega]
theorem oc_ext {k : Nat} (h : ∀ c i, ob_k c i = k → σ c i = τ c i) : oc cI cL ad σ k = oc cI cL ad τ k := by
  by_cases hk : k < 14
  · have hk9 : k = 0 ∨ k = 1 ∨ k = 2 ∨ k = 3 ∨ k = 4 ∨ k = 5 ∨ k = 6 ∨ k = 7 ∨ k = 8 ∨ k = 9 ∨ k = 10 ∨ k = 11 ∨ k = 12 ∨ k = 13 := by omega
    rcases hk9 with rfl | rfl | rfl | rfl | rfl | rfl | rfl | rfl | rfl | rfl | rfl | rfl | rfl | rfl
    · rfl
    · show ob_b cI cL ad σ 1 = ob_b cI cL ad τ 1
      simp only [ob_b, h 2 0 rfl]
    · show ob_b cI cL ad σ 2 = ob_b cI cL ad τ 2
      simp only [ob_b, h 0 0 rfl]
    · show ob_b cI cL ad σ 3 = ob_b cI cL ad τ 3
      simp only [ob_b, h 1 0 rfl]
    · show ob_b cI cL ad σ 4 = ob_b cI cL ad τ 4
      simp only [ob_b, h 9 0 rfl, h 10 0 rfl]
    · rfl
    · rfl
    · show ob_b cI cL ad σ 7 = ob_b cI cL ad τ 7
      simp only [ob_b, h 15 0 rfl, h 16 0 rfl, h 17 0 rfl, h 18 0 rfl]
    · show ob_b cI cL ad σ 8 = ob_b cI cL ad τ 8
      simp only [ob_b, h 11 0 rfl]
    · show ob_b cI cL ad σ 9 = ob_b cI cL ad τ 9
      simp only [ob_b, h 12 0 rfl]
    · show ob_b cI cL ad σ 10 = ob_b cI cL ad τ 10
      simp only [ob_b, h 13 0 rfl]
    · show ob_b cI cL ad σ 11 = ob_b cI cL ad τ 11
      simp only [ob_b, h 14 0 rfl]
    · show ob_b cI cL ad σ 12 = ob_b cI cL ad τ 12
      simp only [ob_b, h 20 0 rfl]
    · show ob_b cI cL ad σ 13 = ob_b cI cL ad τ 13
      simp only [ob_b, h 19 0 rfl]
  · obtain ⟨i, j, hj, rfl⟩ : ∃ i j, j < 4 ∧ k = 4 * i + (14 + j) := ⟨(k - 14) / 4, (k - 14) % 4, by omega, by omega⟩
    have hj9 : j = 0 ∨ j = 1 ∨ j = 2 ∨ j = 3 := by omega
    rcases hj9 with rfl | rfl | rfl | rfl
    · rw [oc_l0, oc_l0]
      simp only [ob_l, h 4 i rfl, h 5 i rfl, h 6 i rfl]
    · rw [oc_l1, oc_l1]
      simp only [ob_l, h 3 i rfl]
    · rw [oc_l2, oc_l2]
      simp only [ob_l, h 7 i rfl]
    · rw [oc_l3, oc_l3]
      simp only [ob_l, h 8 i rfl]
theorem ow_set {c i k : Nat} {f : Nat → Int32} {e : va_E} (hk : ob_k c i = k) (he : oc cI cL ad (uA σ c i f) k = e) : (ow cI cL ad σ).set k (ad k, e) = ow cI cL ad (uA σ c i f) :=
  fw_set he (fun q hq => oc_ext (fun c9 i9 h9 => uA_n (fun z => hq (by rw [← h9, z.1, z.2, hk]))))
theorem ow_0 : (ow cI cL ad σ)[0]? = some (ad 0, .inr (5, [.ref (ad 1), .ref (ad 4), .ref (ad 7), .ref (ad 12)])) := fw_at (by decide)
theorem ow_1 : (ow cI cL ad σ)[1]? = some (ad 1, .inr (0, [.ref (ad 2), .ref (ad 3), .int (σ 2 0 0)])) := fw_at (by decide)
theorem ow_2 : (ow cI cL ad σ)[2]? = some (ad 2, .inl (cI, 5, .inl (σ 0 0))) := fw_at (by decide)
theorem ow_3 : (ow cI cL ad σ)[3]? = some (ad 3, .inl (cI, 5, .inl (σ 1 0))) := fw_at (by decide)
theorem ow_4 : (ow cI cL ad σ)[4]? = some (ad 4, .inr (2, [.ref (ad 5), .ref (ad 6), .int (σ 9 0 0), .int (σ 10 0 0)])) := fw_at (by decide)
theorem ow_5 : (ow cI cL ad σ)[5]? = some (ad 5, .inl (cL, 4, .inr (.inr (.inr (.inr (fun q => some (ad (4 * q + 14)))))))) := fw_at (by decide)
theorem ow_6 : (ow cI cL ad σ)[6]? = some (ad 6, .inl (cL, 4, .inr (.inr (.inr (.inr (fun q => some (ad (4 * (q + 4) + 14)))))))) := fw_at (by decide)
theorem ow_7 : (ow cI cL ad σ)[7]? = some (ad 7, .inr (3, [.ref (ad 1), .ref (ad 4), .ref (ad 8), .ref (ad 9), .ref (ad 10), .ref (ad 11), .int (σ 15 0 0), .int (σ 16 0 0), .int (σ 17 0 0), .int (σ 18 0 0)])) := fw_at (by decide)
theorem ow_8 : (ow cI cL ad σ)[8]? = some (ad 8, .inl (cI, 5, .inl (σ 11 0))) := fw_at (by decide)
theorem ow_9 : (ow cI cL ad σ)[9]? = some (ad 9, .inl (cI, 5, .inl (σ 12 0))) := fw_at (by decide)
theorem ow_10 : (ow cI cL ad σ)[10]? = some (ad 10, .inl (cI, 6, .inl (σ 13 0))) := fw_at (by decide)
theorem ow_11 : (ow cI cL ad σ)[11]? = some (ad 11, .inl (cI, 6, .inl (σ 14 0))) := fw_at (by decide)
theorem ow_12 : (ow cI cL ad σ)[12]? = some (ad 12, .inr (4, [.ref (ad 13), .int (σ 20 0 0)])) := fw_at (by decide)
theorem ow_13 : (ow cI cL ad σ)[13]? = some (ad 13, .inl (cI, 5, .inl (σ 19 0))) := fw_at (by decide)
theorem ow_l0 {i : Nat} (hi : i < 8) : (ow cI cL ad σ)[4 * i + 14]? = some (ad (4 * i + 14), .inr (1, [.ref (ad (4 * i + 15)), .int (σ 4 i 0), .int (σ 5 i 0), .int (σ 6 i 0), .ref (ad (4 * i + 16)), .ref (ad (4 * i + 17))])) := by
  rw [show ow cI cL ad σ = fw 46 ad (oc cI cL ad σ) from rfl, fw_at (by omega), oc_l0]
  rfl
theorem ow_l1 {i : Nat} (hi : i < 8) : (ow cI cL ad σ)[4 * i + 15]? = some (ad (4 * i + 15), .inl (cI, 5, .inl (σ 3 i))) := by
  rw [show ow cI cL ad σ = fw 46 ad (oc cI cL ad σ) from rfl, fw_at (by omega), oc_l1]
  rfl
theorem ow_l2 {i : Nat} (hi : i < 8) : (ow cI cL ad σ)[4 * i + 16]? = some (ad (4 * i + 16), .inl (cI, 6, .inl (σ 7 i))) := by
  rw [show ow cI cL ad σ = fw 46 ad (oc cI cL ad σ) from rfl, fw_at (by omega), oc_l2]
  rfl
theorem ow_l3 {i : Nat} (hi : i < 8) : (ow cI cL ad σ)[4 * i + 17]? = some (ad (4 * i + 17), .inl (cI, 6, .inl (σ 8 i))) := by
  rw [show ow cI cL ad σ = fw 46 ad (oc cI cL ad σ) from rfl, fw_at (by omega), oc_l3]
  rfl
end OW
section OF
variable {p : Program} {l : Launch} {e : Env} {R : Room} {s : State} {m : MethodId} {args : Array Value} {below : List Frame} {meth : Method} {c : Code} {H : Heap} {locs : List Loc} {cells slots : Nat} {Q : State → Prop}
variable {cc : ByteArray} {pc nL : Nat} {ls : Array Slot} {rest st0 : List Value} {D : va_G} {A : Nat → Prop} {H0 : Heap} {cw : Cond} {cI cL : ClassId} {ad : Nat → Nat} {σ : oS} {i : Nat}
theorem gf_OB_columns (F : CallFix p m c cc nL s args (cw :: tt) ROB) (hK : va_K D vwCl (ot cI cL) s) (hP : va_P D vwCl (ow cI cL ad σ) H) (hdg : decode cc pc = .ok (.getfield 10, 3)) (kk : W p l e R s m args below meth c H locs cells slots Q (F0 m (pc + 3) ls (.ref (ad 1) :: rest))) : W p l e R s m args below meth c H locs cells slots Q (F0 m pc ls (.ref (ad 0) :: rest)) :=
  ok_get (C := ROB) (T := TOB) (N := 4) F hK hP (fun w h => List.mem_cons_of_mem _ (wuOB w h)) (0) 0 ow_0 rfl (by decide) (List.mem_cons_of_mem _ (tt1 137 rfl rfl)) rfl hdg kk
theorem gf_OB_lines (F : CallFix p m c cc nL s args (cw :: tt) ROB) (hK : va_K D vwCl (ot cI cL) s) (hP : va_P D vwCl (ow cI cL ad σ) H) (hdg : decode cc pc = .ok (.getfield 19, 3)) (kk : W p l e R s m args below meth c H locs cells slots Q (F0 m (pc + 3) ls (.ref (ad 4) :: rest))) : W p l e R s m args below meth c H locs cells slots Q (F0 m pc ls (.ref (ad 0) :: rest)) :=
  ok_get (C := ROB) (T := TOB) (N := 4) F hK hP (fun w h => List.mem_cons_of_mem _ (wuOB w h)) (0) 1 ow_0 rfl (by decide) (List.mem_cons_of_mem _ (tt1 138 rfl rfl)) rfl hdg kk
theorem gf_OB_search (F : CallFix p m c cc nL s args (cw :: tt) ROB) (hK : va_K D vwCl (ot cI cL) s) (hP : va_P D vwCl (ow cI cL ad σ) H) (hdg : decode cc pc = .ok (.getfield 28, 3)) (kk : W p l e R s m args below meth c H locs cells slots Q (F0 m (pc + 3) ls (.ref (ad 7) :: rest))) : W p l e R s m args below meth c H locs cells slots Q (F0 m pc ls (.ref (ad 0) :: rest)) :=
  ok_get (C := ROB) (T := TOB) (N := 4) F hK hP (fun w h => List.mem_cons_of_mem _ (wuOB w h)) (0) 2 ow_0 rfl (by decide) (List.mem_cons_of_mem _ (tt1 139 rfl rfl)) rfl hdg kk
theorem gf_OB_follows (F : CallFix p m c cc nL s args (cw :: tt) ROB) (hK : va_K D vwCl (ot cI cL) s) (hP : va_P D vwCl (ow cI cL ad σ) H) (hdg : decode cc pc = .ok (.getfield 35, 3)) (kk : W p l e R s m args below meth c H locs cells slots Q (F0 m (pc + 3) ls (.ref (ad 12) :: rest))) : W p l e R s m args below meth c H locs cells slots Q (F0 m pc ls (.ref (ad 0) :: rest)) :=
  ok_get (C := ROB) (T := TOB) (N := 4) F hK hP (fun w h => List.mem_cons_of_mem _ (wuOB w h)) (0) 3 ow_0 rfl (by decide) (List.mem_cons_of_mem _ (tt1 140 rfl rfl)) rfl hdg kk
theorem gf_Co_worths (F : CallFix p m c cc nL s args (cw :: tt) RCo) (hK : va_K D vwCl (ot cI cL) s) (hP : va_P D vwCl (ow cI cL ad σ) H) (hdg : decode cc pc = .ok (.getfield 9, 3)) (kk : W p l e R s m args below meth c H locs cells slots Q (F0 m (pc + 3) ls (.ref (ad 2) :: rest))) : W p l e R s m args below meth c H locs cells slots Q (F0 m pc ls (.ref (ad 1) :: rest)) :=
  ok_get (C := RCo) (T := TCo) (N := 3) F hK hP (fun w h => List.mem_cons_of_mem _ (wuCo w h)) (1) 0 ow_1 rfl (by decide) (List.mem_cons_of_mem _ (tt1 31 rfl rfl)) rfl hdg kk
theorem gf_Co_tops (F : CallFix p m c cc nL s args (cw :: tt) RCo) (hK : va_K D vwCl (ot cI cL) s) (hP : va_P D vwCl (ow cI cL ad σ) H) (hdg : decode cc pc = .ok (.getfield 15, 3)) (kk : W p l e R s m args below meth c H locs cells slots Q (F0 m (pc + 3) ls (.ref (ad 3) :: rest))) : W p l e R s m args below meth c H locs cells slots Q (F0 m pc ls (.ref (ad 1) :: rest)) :=
  ok_get (C := RCo) (T := TCo) (N := 3) F hK hP (fun w h => List.mem_cons_of_mem _ (wuCo w h)) (1) 1 ow_1 rfl (by decide) (List.mem_cons_of_mem _ (tt1 32 rfl rfl)) rfl hdg kk
theorem gf_Co_count (F : CallFix p m c cc nL s args (cw :: tt) RCo) (hK : va_K D vwCl (ot cI cL) s) (hP : va_P D vwCl (ow cI cL ad σ) H) (hdg : decode cc pc = .ok (.getfield 18, 3)) (kk : W p l e R s m args below meth c H locs cells slots Q (F0 m (pc + 3) ls (.int (σ 2 0 0) :: rest))) : W p l e R s m args below meth c H locs cells slots Q (F0 m pc ls (.ref (ad 1) :: rest)) :=
  ok_get (C := RCo) (T := TCo) (N := 3) F hK hP (fun w h => List.mem_cons_of_mem _ (wuCo w h)) (1) 2 ow_1 rfl (by decide) (List.mem_cons_of_mem _ (tt1 33 rfl rfl)) rfl hdg kk
theorem pf_Co_count {v : Int32} (F : CallFix p m c cc nL s args (cw :: tt) RCo) (hK : va_K D vwCl (ot cI cL) s) (hP : va_P D vwCl (ow cI cL ad σ) H) (hD : va_D A (ow cI cL ad σ)) (hS : va_S A H0 H locs) (hdg : decode cc pc = .ok (.putfield 18, 3)) (kk : ∀ (H1 : Heap) (locs1 : List Loc), va_P D vwCl (ow cI cL ad (u3 σ 2 0 0 v)) H1 → va_D A (ow cI cL ad (u3 σ 2 0 0 v)) → va_S A H0 H1 locs1 → W p l e R s m args below meth c H1 locs1 cells slots Q (F0 m (pc + 3) ls rest)) : W p l e R s m args below meth c H locs cells slots Q (F0 m pc ls (.int v :: .ref (ad 1) :: rest)) :=
  ok_put (C := RCo) (T := TCo) (N := 3) (ty := .int) F hK hP hD hS tyCo tkCo nmCo (fun w h => List.mem_cons_of_mem _ (wuCo w h)) (1) 2 ow_1 rfl (by decide) (List.mem_cons_of_mem _ (tt1 33 rfl rfl)) rfl (by decide +kernel) rfl rfl (Nat.le_of_ble_eq_true rfl) (ow_set (f := upd (σ 2 0) 0 v) rfl (by simp [oc, ob_b, uA, upd])) hdg kk
theorem gf_Ls_rows (F : CallFix p m c cc nL s args (cw :: tt) RLs) (hK : va_K D vwCl (ot cI cL) s) (hP : va_P D vwCl (ow cI cL ad σ) H) (hdg : decode cc pc = .ok (.getfield 11, 3)) (kk : W p l e R s m args below meth c H locs cells slots Q (F0 m (pc + 3) ls (.ref (ad 5) :: rest))) : W p l e R s m args below meth c H locs cells slots Q (F0 m pc ls (.ref (ad 4) :: rest)) :=
  ok_get (C := RLs) (T := TLs) (N := 4) F hK hP (fun w h => List.mem_cons_of_mem _ (wuLs w h)) (4) 0 ow_4 rfl (by decide) (List.mem_cons_of_mem _ (tt1 74 rfl rfl)) rfl hdg kk
theorem gf_Ls_cuts (F : CallFix p m c cc nL s args (cw :: tt) RLs) (hK : va_K D vwCl (ot cI cL) s) (hP : va_P D vwCl (ow cI cL ad σ) H) (hdg : decode cc pc = .ok (.getfield 17, 3)) (kk : W p l e R s m args below meth c H locs cells slots Q (F0 m (pc + 3) ls (.ref (ad 6) :: rest))) : W p l e R s m args below meth c H locs cells slots Q (F0 m pc ls (.ref (ad 4) :: rest)) :=
  ok_get (C := RLs) (T := TLs) (N := 4) F hK hP (fun w h => List.mem_cons_of_mem _ (wuLs w h)) (4) 1 ow_4 rfl (by decide) (List.mem_cons_of_mem _ (tt1 75 rfl rfl)) rfl hdg kk
theorem gf_Ls_rowCount (F : CallFix p m c cc nL s args (cw :: tt) RLs) (hK : va_K D vwCl (ot cI cL) s) (hP : va_P D vwCl (ow cI cL ad σ) H) (hdg : decode cc pc = .ok (.getfield 20, 3)) (kk : W p l e R s m args below meth c H locs cells slots Q (F0 m (pc + 3) ls (.int (σ 9 0 0) :: rest))) : W p l e R s m args below meth c H locs cells slots Q (F0 m pc ls (.ref (ad 4) :: rest)) :=
  ok_get (C := RLs) (T := TLs) (N := 4) F hK hP (fun w h => List.mem_cons_of_mem _ (wuLs w h)) (4) 2 ow_4 rfl (by decide) (List.mem_cons_of_mem _ (tt1 76 rfl rfl)) rfl hdg kk
theorem pf_Ls_rowCount {v : Int32} (F : CallFix p m c cc nL s args (cw :: tt) RLs) (hK : va_K D vwCl (ot cI cL) s) (hP : va_P D vwCl (ow cI cL ad σ) H) (hD : va_D A (ow cI cL ad σ)) (hS : va_S A H0 H locs) (hdg : decode cc pc = .ok (.putfield 20, 3)) (kk : ∀ (H1 : Heap) (locs1 : List Loc), va_P D vwCl (ow cI cL ad (u3 σ 9 0 0 v)) H1 → va_D A (ow cI cL ad (u3 σ 9 0 0 v)) → va_S A H0 H1 locs1 → W p l e R s m args below meth c H1 locs1 cells slots Q (F0 m (pc + 3) ls rest)) : W p l e R s m args below meth c H locs cells slots Q (F0 m pc ls (.int v :: .ref (ad 4) :: rest)) :=
  ok_put (C := RLs) (T := TLs) (N := 4) (ty := .int) F hK hP hD hS tyLs tkLs nmLs (fun w h => List.mem_cons_of_mem _ (wuLs w h)) (4) 2 ow_4 rfl (by decide) (List.mem_cons_of_mem _ (tt1 76 rfl rfl)) rfl (by decide +kernel) rfl rfl (Nat.le_of_ble_eq_true rfl) (ow_set (f := upd (σ 9 0) 0 v) rfl (by simp [oc, ob_b, uA, upd])) hdg kk
theorem gf_Ls_cutCount (F : CallFix p m c cc nL s args (cw :: tt) RLs) (hK : va_K D vwCl (ot cI cL) s) (hP : va_P D vwCl (ow cI cL ad σ) H) (hdg : decode cc pc = .ok (.getfield 24, 3)) (kk : W p l e R s m args below meth c H locs cells slots Q (F0 m (pc + 3) ls (.int (σ 10 0 0) :: rest))) : W p l e R s m args below meth c H locs cells slots Q (F0 m pc ls (.ref (ad 4) :: rest)) :=
  ok_get (C := RLs) (T := TLs) (N := 4) F hK hP (fun w h => List.mem_cons_of_mem _ (wuLs w h)) (4) 3 ow_4 rfl (by decide) (List.mem_cons_of_mem _ (tt1 77 rfl rfl)) rfl hdg kk
theorem pf_Ls_cutCount {v : Int32} (F : CallFix p m c cc nL s args (cw :: tt) RLs) (hK : va_K D vwCl (ot cI cL) s) (hP : va_P D vwCl (ow cI cL ad σ) H) (hD : va_D A (ow cI cL ad σ)) (hS : va_S A H0 H locs) (hdg : decode cc pc = .ok (.putfield 24, 3)) (kk : ∀ (H1 : Heap) (locs1 : List Loc), va_P D vwCl (ow cI cL ad (u3 σ 10 0 0 v)) H1 → va_D A (ow cI cL ad (u3 σ 10 0 0 v)) → va_S A H0 H1 locs1 → W p l e R s m args below meth c H1 locs1 cells slots Q (F0 m (pc + 3) ls rest)) : W p l e R s m args below meth c H locs cells slots Q (F0 m pc ls (.int v :: .ref (ad 4) :: rest)) :=
  ok_put (C := RLs) (T := TLs) (N := 4) (ty := .int) F hK hP hD hS tyLs tkLs nmLs (fun w h => List.mem_cons_of_mem _ (wuLs w h)) (4) 3 ow_4 rfl (by decide) (List.mem_cons_of_mem _ (tt1 77 rfl rfl)) rfl (by decide +kernel) rfl rfl (Nat.le_of_ble_eq_true rfl) (ow_set (f := upd (σ 10 0) 0 v) rfl (by simp [oc, ob_b, uA, upd])) hdg kk
theorem gf_Se_columns (F : CallFix p m c cc nL s args (cw :: tt) RSe) (hK : va_K D vwCl (ot cI cL) s) (hP : va_P D vwCl (ow cI cL ad σ) H) (hdg : decode cc pc = .ok (.getfield 38, 3)) (kk : W p l e R s m args below meth c H locs cells slots Q (F0 m (pc + 3) ls (.ref (ad 1) :: rest))) : W p l e R s m args below meth c H locs cells slots Q (F0 m pc ls (.ref (ad 7) :: rest)) :=
  ok_get (C := RSe) (T := TSe) (N := 10) F hK hP (fun w h => List.mem_cons_of_mem _ (wuSe w h)) (7) 0 ow_7 rfl (by decide) (List.mem_cons_of_mem _ (tt1 93 rfl rfl)) rfl hdg kk
theorem gf_Se_lines (F : CallFix p m c cc nL s args (cw :: tt) RSe) (hK : va_K D vwCl (ot cI cL) s) (hP : va_P D vwCl (ow cI cL ad σ) H) (hdg : decode cc pc = .ok (.getfield 42, 3)) (kk : W p l e R s m args below meth c H locs cells slots Q (F0 m (pc + 3) ls (.ref (ad 4) :: rest))) : W p l e R s m args below meth c H locs cells slots Q (F0 m pc ls (.ref (ad 7) :: rest)) :=
  ok_get (C := RSe) (T := TSe) (N := 10) F hK hP (fun w h => List.mem_cons_of_mem _ (wuSe w h)) (7) 1 ow_7 rfl (by decide) (List.mem_cons_of_mem _ (tt1 94 rfl rfl)) rfl hdg kk
theorem gf_Se_numbers (F : CallFix p m c cc nL s args (cw :: tt) RSe) (hK : va_K D vwCl (ot cI cL) s) (hP : va_P D vwCl (ow cI cL ad σ) H) (hdg : decode cc pc = .ok (.getfield 9, 3)) (kk : W p l e R s m args below meth c H locs cells slots Q (F0 m (pc + 3) ls (.ref (ad 8) :: rest))) : W p l e R s m args below meth c H locs cells slots Q (F0 m pc ls (.ref (ad 7) :: rest)) :=
  ok_get (C := RSe) (T := TSe) (N := 10) F hK hP (fun w h => List.mem_cons_of_mem _ (wuSe w h)) (7) 2 ow_7 rfl (by decide) (List.mem_cons_of_mem _ (tt1 95 rfl rfl)) rfl hdg kk
theorem gf_Se_bestNumbers (F : CallFix p m c cc nL s args (cw :: tt) RSe) (hK : va_K D vwCl (ot cI cL) s) (hP : va_P D vwCl (ow cI cL ad σ) H) (hdg : decode cc pc = .ok (.getfield 15, 3)) (kk : W p l e R s m args below meth c H locs cells slots Q (F0 m (pc + 3) ls (.ref (ad 9) :: rest))) : W p l e R s m args below meth c H locs cells slots Q (F0 m pc ls (.ref (ad 7) :: rest)) :=
  ok_get (C := RSe) (T := TSe) (N := 10) F hK hP (fun w h => List.mem_cons_of_mem _ (wuSe w h)) (7) 3 ow_7 rfl (by decide) (List.mem_cons_of_mem _ (tt1 96 rfl rfl)) rfl hdg kk
theorem gf_Se_worths (F : CallFix p m c cc nL s args (cw :: tt) RSe) (hK : va_K D vwCl (ot cI cL) s) (hP : va_P D vwCl (ow cI cL ad σ) H) (hdg : decode cc pc = .ok (.getfield 18, 3)) (kk : W p l e R s m args below meth c H locs cells slots Q (F0 m (pc + 3) ls (.ref (ad 10) :: rest))) : W p l e R s m args below meth c H locs cells slots Q (F0 m pc ls (.ref (ad 7) :: rest)) :=
  ok_get (C := RSe) (T := TSe) (N := 10) F hK hP (fun w h => List.mem_cons_of_mem _ (wuSe w h)) (7) 4 ow_7 rfl (by decide) (List.mem_cons_of_mem _ (tt1 97 rfl rfl)) rfl hdg kk
theorem gf_Se_hopes (F : CallFix p m c cc nL s args (cw :: tt) RSe) (hK : va_K D vwCl (ot cI cL) s) (hP : va_P D vwCl (ow cI cL ad σ) H) (hdg : decode cc pc = .ok (.getfield 21, 3)) (kk : W p l e R s m args below meth c H locs cells slots Q (F0 m (pc + 3) ls (.ref (ad 11) :: rest))) : W p l e R s m args below meth c H locs cells slots Q (F0 m pc ls (.ref (ad 7) :: rest)) :=
  ok_get (C := RSe) (T := TSe) (N := 10) F hK hP (fun w h => List.mem_cons_of_mem _ (wuSe w h)) (7) 5 ow_7 rfl (by decide) (List.mem_cons_of_mem _ (tt1 98 rfl rfl)) rfl hdg kk
theorem gf_Se_at (F : CallFix p m c cc nL s args (cw :: tt) RSe) (hK : va_K D vwCl (ot cI cL) s) (hP : va_P D vwCl (ow cI cL ad σ) H) (hdg : decode cc pc = .ok (.getfield 24, 3)) (kk : W p l e R s m args below meth c H locs cells slots Q (F0 m (pc + 3) ls (.int (σ 15 0 0) :: rest))) : W p l e R s m args below meth c H locs cells slots Q (F0 m pc ls (.ref (ad 7) :: rest)) :=
  ok_get (C := RSe) (T := TSe) (N := 10) F hK hP (fun w h => List.mem_cons_of_mem _ (wuSe w h)) (7) 6 ow_7 rfl (by decide) (List.mem_cons_of_mem _ (tt1 99 rfl rfl)) rfl hdg kk
theorem pf_Se_at {v : Int32} (F : CallFix p m c cc nL s args (cw :: tt) RSe) (hK : va_K D vwCl (ot cI cL) s) (hP : va_P D vwCl (ow cI cL ad σ) H) (hD : va_D A (ow cI cL ad σ)) (hS : va_S A H0 H locs) (hdg : decode cc pc = .ok (.putfield 24, 3)) (kk : ∀ (H1 : Heap) (locs1 : List Loc), va_P D vwCl (ow cI cL ad (u3 σ 15 0 0 v)) H1 → va_D A (ow cI cL ad (u3 σ 15 0 0 v)) → va_S A H0 H1 locs1 → W p l e R s m args below meth c H1 locs1 cells slots Q (F0 m (pc + 3) ls rest)) : W p l e R s m args below meth c H locs cells slots Q (F0 m pc ls (.int v :: .ref (ad 7) :: rest)) :=
  ok_put (C := RSe) (T := TSe) (N := 10) (ty := .int) F hK hP hD hS tySe tkSe nmSe (fun w h => List.mem_cons_of_mem _ (wuSe w h)) (7) 6 ow_7 rfl (by decide) (List.mem_cons_of_mem _ (tt1 99 rfl rfl)) rfl (by decide +kernel) rfl rfl (Nat.le_of_ble_eq_true rfl) (ow_set (f := upd (σ 15 0) 0 v) rfl (by simp [oc, ob_b, uA, upd])) hdg kk
theorem gf_Se_steps (F : CallFix p m c cc nL s args (cw :: tt) RSe) (hK : va_K D vwCl (ot cI cL) s) (hP : va_P D vwCl (ow cI cL ad σ) H) (hdg : decode cc pc = .ok (.getfield 28, 3)) (kk : W p l e R s m args below meth c H locs cells slots Q (F0 m (pc + 3) ls (.int (σ 16 0 0) :: rest))) : W p l e R s m args below meth c H locs cells slots Q (F0 m pc ls (.ref (ad 7) :: rest)) :=
  ok_get (C := RSe) (T := TSe) (N := 10) F hK hP (fun w h => List.mem_cons_of_mem _ (wuSe w h)) (7) 7 ow_7 rfl (by decide) (List.mem_cons_of_mem _ (tt1 100 rfl rfl)) rfl hdg kk
theorem pf_Se_steps {v : Int32} (F : CallFix p m c cc nL s args (cw :: tt) RSe) (hK : va_K D vwCl (ot cI cL) s) (hP : va_P D vwCl (ow cI cL ad σ) H) (hD : va_D A (ow cI cL ad σ)) (hS : va_S A H0 H locs) (hdg : decode cc pc = .ok (.putfield 28, 3)) (kk : ∀ (H1 : Heap) (locs1 : List Loc), va_P D vwCl (ow cI cL ad (u3 σ 16 0 0 v)) H1 → va_D A (ow cI cL ad (u3 σ 16 0 0 v)) → va_S A H0 H1 locs1 → W p l e R s m args below meth c H1 locs1 cells slots Q (F0 m (pc + 3) ls rest)) : W p l e R s m args below meth c H locs cells slots Q (F0 m pc ls (.int v :: .ref (ad 7) :: rest)) :=
  ok_put (C := RSe) (T := TSe) (N := 10) (ty := .int) F hK hP hD hS tySe tkSe nmSe (fun w h => List.mem_cons_of_mem _ (wuSe w h)) (7) 7 ow_7 rfl (by decide) (List.mem_cons_of_mem _ (tt1 100 rfl rfl)) rfl (by decide +kernel) rfl rfl (Nat.le_of_ble_eq_true rfl) (ow_set (f := upd (σ 16 0) 0 v) rfl (by simp [oc, ob_b, uA, upd])) hdg kk
theorem gf_Se_found (F : CallFix p m c cc nL s args (cw :: tt) RSe) (hK : va_K D vwCl (ot cI cL) s) (hP : va_P D vwCl (ow cI cL ad σ) H) (hdg : decode cc pc = .ok (.getfield 31, 3)) (kk : W p l e R s m args below meth c H locs cells slots Q (F0 m (pc + 3) ls (.int (σ 17 0 0) :: rest))) : W p l e R s m args below meth c H locs cells slots Q (F0 m pc ls (.ref (ad 7) :: rest)) :=
  ok_get (C := RSe) (T := TSe) (N := 10) F hK hP (fun w h => List.mem_cons_of_mem _ (wuSe w h)) (7) 8 ow_7 rfl (by decide) (List.mem_cons_of_mem _ (tt1 101 rfl rfl)) rfl hdg kk
theorem pf_Se_found {v : Int32} (F : CallFix p m c cc nL s args (cw :: tt) RSe) (hK : va_K D vwCl (ot cI cL) s) (hP : va_P D vwCl (ow cI cL ad σ) H) (hD : va_D A (ow cI cL ad σ)) (hS : va_S A H0 H locs) (hz : narrow .boolean (.int v) = .int v) (hz2 : fits .boolean (.int v) = true) (hdg : decode cc pc = .ok (.putfield 31, 3)) (kk : ∀ (H1 : Heap) (locs1 : List Loc), va_P D vwCl (ow cI cL ad (u3 σ 17 0 0 v)) H1 → va_D A (ow cI cL ad (u3 σ 17 0 0 v)) → va_S A H0 H1 locs1 → W p l e R s m args below meth c H1 locs1 cells slots Q (F0 m (pc + 3) ls rest)) : W p l e R s m args below meth c H locs cells slots Q (F0 m pc ls (.int v :: .ref (ad 7) :: rest)) :=
  ok_put (C := RSe) (T := TSe) (N := 10) (ty := .boolean) F hK hP hD hS tySe tkSe nmSe (fun w h => List.mem_cons_of_mem _ (wuSe w h)) (7) 8 ow_7 rfl (by decide) (List.mem_cons_of_mem _ (tt1 101 rfl rfl)) rfl (by decide +kernel) hz hz2 (Nat.le_of_ble_eq_true rfl) (ow_set (f := upd (σ 17 0) 0 v) rfl (by simp [oc, ob_b, uA, upd])) hdg kk
theorem gf_Se_bestWorth (F : CallFix p m c cc nL s args (cw :: tt) RSe) (hK : va_K D vwCl (ot cI cL) s) (hP : va_P D vwCl (ow cI cL ad σ) H) (hdg : decode cc pc = .ok (.getfield 35, 3)) (kk : W p l e R s m args below meth c H locs cells slots Q (F0 m (pc + 3) ls (.int (σ 18 0 0) :: rest))) : W p l e R s m args below meth c H locs cells slots Q (F0 m pc ls (.ref (ad 7) :: rest)) :=
  ok_get (C := RSe) (T := TSe) (N := 10) F hK hP (fun w h => List.mem_cons_of_mem _ (wuSe w h)) (7) 9 ow_7 rfl (by decide) (List.mem_cons_of_mem _ (tt1 102 rfl rfl)) rfl hdg kk
theorem pf_Se_bestWorth {v : Int32} (F : CallFix p m c cc nL s args (cw :: tt) RSe) (hK : va_K D vwCl (ot cI cL) s) (hP : va_P D vwCl (ow cI cL ad σ) H) (hD : va_D A (ow cI cL ad σ)) (hS : va_S A H0 H locs) (hdg : decode cc pc = .ok (.putfield 35, 3)) (kk : ∀ (H1 : Heap) (locs1 : List Loc), va_P D vwCl (ow cI cL ad (u3 σ 18 0 0 v)) H1 → va_D A (ow cI cL ad (u3 σ 18 0 0 v)) → va_S A H0 H1 locs1 → W p l e R s m args below meth c H1 locs1 cells slots Q (F0 m (pc + 3) ls rest)) : W p l e R s m args below meth c H locs cells slots Q (F0 m pc ls (.int v :: .ref (ad 7) :: rest)) :=
  ok_put (C := RSe) (T := TSe) (N := 10) (ty := .int) F hK hP hD hS tySe tkSe nmSe (fun w h => List.mem_cons_of_mem _ (wuSe w h)) (7) 9 ow_7 rfl (by decide) (List.mem_cons_of_mem _ (tt1 102 rfl rfl)) rfl (by decide +kernel) rfl rfl (Nat.le_of_ble_eq_true rfl) (ow_set (f := upd (σ 18 0) 0 v) rfl (by simp [oc, ob_b, uA, upd])) hdg kk
theorem gf_Fo_behind (F : CallFix p m c cc nL s args (cw :: tt) RFo) (hK : va_K D vwCl (ot cI cL) s) (hP : va_P D vwCl (ow cI cL ad σ) H) (hdg : decode cc pc = .ok (.getfield 9, 3)) (kk : W p l e R s m args below meth c H locs cells slots Q (F0 m (pc + 3) ls (.ref (ad 13) :: rest))) : W p l e R s m args below meth c H locs cells slots Q (F0 m pc ls (.ref (ad 12) :: rest)) :=
  ok_get (C := RFo) (T := TFo) (N := 2) F hK hP (fun w h => List.mem_cons_of_mem _ (wuFo w h)) (12) 0 ow_12 rfl (by decide) (List.mem_cons_of_mem _ (tt1 130 rfl rfl)) rfl hdg kk
theorem gf_Fo_count (F : CallFix p m c cc nL s args (cw :: tt) RFo) (hK : va_K D vwCl (ot cI cL) s) (hP : va_P D vwCl (ow cI cL ad σ) H) (hdg : decode cc pc = .ok (.getfield 15, 3)) (kk : W p l e R s m args below meth c H locs cells slots Q (F0 m (pc + 3) ls (.int (σ 20 0 0) :: rest))) : W p l e R s m args below meth c H locs cells slots Q (F0 m pc ls (.ref (ad 12) :: rest)) :=
  ok_get (C := RFo) (T := TFo) (N := 2) F hK hP (fun w h => List.mem_cons_of_mem _ (wuFo w h)) (12) 1 ow_12 rfl (by decide) (List.mem_cons_of_mem _ (tt1 131 rfl rfl)) rfl hdg kk
theorem pf_Fo_count {v : Int32} (F : CallFix p m c cc nL s args (cw :: tt) RFo) (hK : va_K D vwCl (ot cI cL) s) (hP : va_P D vwCl (ow cI cL ad σ) H) (hD : va_D A (ow cI cL ad σ)) (hS : va_S A H0 H locs) (hdg : decode cc pc = .ok (.putfield 15, 3)) (kk : ∀ (H1 : Heap) (locs1 : List Loc), va_P D vwCl (ow cI cL ad (u3 σ 20 0 0 v)) H1 → va_D A (ow cI cL ad (u3 σ 20 0 0 v)) → va_S A H0 H1 locs1 → W p l e R s m args below meth c H1 locs1 cells slots Q (F0 m (pc + 3) ls rest)) : W p l e R s m args below meth c H locs cells slots Q (F0 m pc ls (.int v :: .ref (ad 12) :: rest)) :=
  ok_put (C := RFo) (T := TFo) (N := 2) (ty := .int) F hK hP hD hS tyFo tkFo nmFo (fun w h => List.mem_cons_of_mem _ (wuFo w h)) (12) 1 ow_12 rfl (by decide) (List.mem_cons_of_mem _ (tt1 131 rfl rfl)) rfl (by decide +kernel) rfl rfl (Nat.le_of_ble_eq_true rfl) (ow_set (f := upd (σ 20 0) 0 v) rfl (by simp [oc, ob_b, uA, upd])) hdg kk
theorem gf_Li_factors (F : CallFix p m c cc nL s args (cw :: tt) RLi) (hK : va_K D vwCl (ot cI cL) s) (hP : va_P D vwCl (ow cI cL ad σ) H) (hi : i < 8) (hdg : decode cc pc = .ok (.getfield 9, 3)) (kk : W p l e R s m args below meth c H locs cells slots Q (F0 m (pc + 3) ls (.ref (ad (4 * i + 15)) :: rest))) : W p l e R s m args below meth c H locs cells slots Q (F0 m pc ls (.ref (ad (4 * i + 14)) :: rest)) :=
  ok_get (C := RLi) (T := TLi) (N := 6) F hK hP (fun w h => List.mem_cons_of_mem _ (wuLi w h)) (4 * i + 14) 0 (ow_l0 hi) rfl (by decide) (List.mem_cons_of_mem _ (tt1 55 rfl rfl)) rfl hdg kk
theorem gf_Li_kind (F : CallFix p m c cc nL s args (cw :: tt) RLi) (hK : va_K D vwCl (ot cI cL) s) (hP : va_P D vwCl (ow cI cL ad σ) H) (hi : i < 8) (hdg : decode cc pc = .ok (.getfield 15, 3)) (kk : W p l e R s m args below meth c H locs cells slots Q (F0 m (pc + 3) ls (.int (σ 4 i 0) :: rest))) : W p l e R s m args below meth c H locs cells slots Q (F0 m pc ls (.ref (ad (4 * i + 14)) :: rest)) :=
  ok_get (C := RLi) (T := TLi) (N := 6) F hK hP (fun w h => List.mem_cons_of_mem _ (wuLi w h)) (4 * i + 14) 1 (ow_l0 hi) rfl (by decide) (List.mem_cons_of_mem _ (tt1 56 rfl rfl)) rfl hdg kk
theorem pf_Li_kind {v : Int32} (F : CallFix p m c cc nL s args (cw :: tt) RLi) (hK : va_K D vwCl (ot cI cL) s) (hP : va_P D vwCl (ow cI cL ad σ) H) (hD : va_D A (ow cI cL ad σ)) (hS : va_S A H0 H locs) (hi : i < 8) (hdg : decode cc pc = .ok (.putfield 15, 3)) (kk : ∀ (H1 : Heap) (locs1 : List Loc), va_P D vwCl (ow cI cL ad (u3 σ 4 i 0 v)) H1 → va_D A (ow cI cL ad (u3 σ 4 i 0 v)) → va_S A H0 H1 locs1 → W p l e R s m args below meth c H1 locs1 cells slots Q (F0 m (pc + 3) ls rest)) : W p l e R s m args below meth c H locs cells slots Q (F0 m pc ls (.int v :: .ref (ad (4 * i + 14)) :: rest)) :=
  ok_put (C := RLi) (T := TLi) (N := 6) (ty := .int) F hK hP hD hS tyLi tkLi nmLi (fun w h => List.mem_cons_of_mem _ (wuLi w h)) (4 * i + 14) 1 (ow_l0 hi) rfl (by decide) (List.mem_cons_of_mem _ (tt1 56 rfl rfl)) rfl (by decide +kernel) rfl rfl (Nat.le_of_ble_eq_true rfl) (ow_set (f := upd (σ 4 i) 0 v) rfl (by rw [oc_l0]; simp [ob_l, uA, upd])) hdg kk
theorem gf_Li_right (F : CallFix p m c cc nL s args (cw :: tt) RLi) (hK : va_K D vwCl (ot cI cL) s) (hP : va_P D vwCl (ow cI cL ad σ) H) (hi : i < 8) (hdg : decode cc pc = .ok (.getfield 19, 3)) (kk : W p l e R s m args below meth c H locs cells slots Q (F0 m (pc + 3) ls (.int (σ 5 i 0) :: rest))) : W p l e R s m args below meth c H locs cells slots Q (F0 m pc ls (.ref (ad (4 * i + 14)) :: rest)) :=
  ok_get (C := RLi) (T := TLi) (N := 6) F hK hP (fun w h => List.mem_cons_of_mem _ (wuLi w h)) (4 * i + 14) 2 (ow_l0 hi) rfl (by decide) (List.mem_cons_of_mem _ (tt1 57 rfl rfl)) rfl hdg kk
theorem pf_Li_right {v : Int32} (F : CallFix p m c cc nL s args (cw :: tt) RLi) (hK : va_K D vwCl (ot cI cL) s) (hP : va_P D vwCl (ow cI cL ad σ) H) (hD : va_D A (ow cI cL ad σ)) (hS : va_S A H0 H locs) (hi : i < 8) (hdg : decode cc pc = .ok (.putfield 19, 3)) (kk : ∀ (H1 : Heap) (locs1 : List Loc), va_P D vwCl (ow cI cL ad (u3 σ 5 i 0 v)) H1 → va_D A (ow cI cL ad (u3 σ 5 i 0 v)) → va_S A H0 H1 locs1 → W p l e R s m args below meth c H1 locs1 cells slots Q (F0 m (pc + 3) ls rest)) : W p l e R s m args below meth c H locs cells slots Q (F0 m pc ls (.int v :: .ref (ad (4 * i + 14)) :: rest)) :=
  ok_put (C := RLi) (T := TLi) (N := 6) (ty := .int) F hK hP hD hS tyLi tkLi nmLi (fun w h => List.mem_cons_of_mem _ (wuLi w h)) (4 * i + 14) 2 (ow_l0 hi) rfl (by decide) (List.mem_cons_of_mem _ (tt1 57 rfl rfl)) rfl (by decide +kernel) rfl rfl (Nat.le_of_ble_eq_true rfl) (ow_set (f := upd (σ 5 i) 0 v) rfl (by rw [oc_l0]; simp [ob_l, uA, upd])) hdg kk
theorem gf_Li_weight (F : CallFix p m c cc nL s args (cw :: tt) RLi) (hK : va_K D vwCl (ot cI cL) s) (hP : va_P D vwCl (ow cI cL ad σ) H) (hi : i < 8) (hdg : decode cc pc = .ok (.getfield 22, 3)) (kk : W p l e R s m args below meth c H locs cells slots Q (F0 m (pc + 3) ls (.int (σ 6 i 0) :: rest))) : W p l e R s m args below meth c H locs cells slots Q (F0 m pc ls (.ref (ad (4 * i + 14)) :: rest)) :=
  ok_get (C := RLi) (T := TLi) (N := 6) F hK hP (fun w h => List.mem_cons_of_mem _ (wuLi w h)) (4 * i + 14) 3 (ow_l0 hi) rfl (by decide) (List.mem_cons_of_mem _ (tt1 58 rfl rfl)) rfl hdg kk
theorem pf_Li_weight {v : Int32} (F : CallFix p m c cc nL s args (cw :: tt) RLi) (hK : va_K D vwCl (ot cI cL) s) (hP : va_P D vwCl (ow cI cL ad σ) H) (hD : va_D A (ow cI cL ad σ)) (hS : va_S A H0 H locs) (hi : i < 8) (hdg : decode cc pc = .ok (.putfield 22, 3)) (kk : ∀ (H1 : Heap) (locs1 : List Loc), va_P D vwCl (ow cI cL ad (u3 σ 6 i 0 v)) H1 → va_D A (ow cI cL ad (u3 σ 6 i 0 v)) → va_S A H0 H1 locs1 → W p l e R s m args below meth c H1 locs1 cells slots Q (F0 m (pc + 3) ls rest)) : W p l e R s m args below meth c H locs cells slots Q (F0 m pc ls (.int v :: .ref (ad (4 * i + 14)) :: rest)) :=
  ok_put (C := RLi) (T := TLi) (N := 6) (ty := .int) F hK hP hD hS tyLi tkLi nmLi (fun w h => List.mem_cons_of_mem _ (wuLi w h)) (4 * i + 14) 3 (ow_l0 hi) rfl (by decide) (List.mem_cons_of_mem _ (tt1 58 rfl rfl)) rfl (by decide +kernel) rfl rfl (Nat.le_of_ble_eq_true rfl) (ow_set (f := upd (σ 6 i) 0 v) rfl (by rw [oc_l0]; simp [ob_l, uA, upd])) hdg kk
theorem gf_Li_sums (F : CallFix p m c cc nL s args (cw :: tt) RLi) (hK : va_K D vwCl (ot cI cL) s) (hP : va_P D vwCl (ow cI cL ad σ) H) (hi : i < 8) (hdg : decode cc pc = .ok (.getfield 25, 3)) (kk : W p l e R s m args below meth c H locs cells slots Q (F0 m (pc + 3) ls (.ref (ad (4 * i + 16)) :: rest))) : W p l e R s m args below meth c H locs cells slots Q (F0 m pc ls (.ref (ad (4 * i + 14)) :: rest)) :=
  ok_get (C := RLi) (T := TLi) (N := 6) F hK hP (fun w h => List.mem_cons_of_mem _ (wuLi w h)) (4 * i + 14) 4 (ow_l0 hi) rfl (by decide) (List.mem_cons_of_mem _ (tt1 59 rfl rfl)) rfl hdg kk
theorem gf_Li_helps (F : CallFix p m c cc nL s args (cw :: tt) RLi) (hK : va_K D vwCl (ot cI cL) s) (hP : va_P D vwCl (ow cI cL ad σ) H) (hi : i < 8) (hdg : decode cc pc = .ok (.getfield 28, 3)) (kk : W p l e R s m args below meth c H locs cells slots Q (F0 m (pc + 3) ls (.ref (ad (4 * i + 17)) :: rest))) : W p l e R s m args below meth c H locs cells slots Q (F0 m pc ls (.ref (ad (4 * i + 14)) :: rest)) :=
  ok_get (C := RLi) (T := TLi) (N := 6) F hK hP (fun w h => List.mem_cons_of_mem _ (wuLi w h)) (4 * i + 14) 5 (ow_l0 hi) rfl (by decide) (List.mem_cons_of_mem _ (tt1 60 rfl rfl)) rfl hdg kk
theorem ia_0 {x : Int32} {j : Nat} {own : String} (F : CallFix p m c cc nL s args (cw :: tt) own) (hK : va_K D vwCl (ot cI cL) s) (hP : va_P D vwCl (ow cI cL ad σ) H) (hx : x = nI j) (hj : j < 5) (hdg : decode cc pc = .ok (.iaload, 1)) (kk : W p l e R s m args below meth c H locs cells slots Q (F0 m (pc + 1) ls (.int (σ 0 0 j) :: rest))) : W p l e R s m args below meth c H locs cells slots Q (F0 m pc ls (.int x :: .ref (ad 2) :: rest)) :=
  ok_iald F hK hP (2) 0 ow_2 rfl hx hj (by decide) hdg kk
theorem sa_0 {x v : Int32} {j : Nat} {own : String} (F : CallFix p m c cc nL s args (cw :: tt) own) (hK : va_K D vwCl (ot cI cL) s) (hP : va_P D vwCl (ow cI cL ad σ) H) (hD : va_D A (ow cI cL ad σ)) (hS : va_S A H0 H locs) (hx : x = nI j) (hj : j < 5) (hdg : decode cc pc = .ok (.iastore, 1)) (kk : ∀ (H1 : Heap) (locs1 : List Loc), va_P D vwCl (ow cI cL ad (u3 σ 0 0 j v)) H1 → va_D A (ow cI cL ad (u3 σ 0 0 j v)) → va_S A H0 H1 locs1 → W p l e R s m args below meth c H1 locs1 cells slots Q (F0 m (pc + 1) ls rest)) : W p l e R s m args below meth c H locs cells slots Q (F0 m pc ls (.int v :: .int x :: .ref (ad 2) :: rest)) :=
  ok_iast F hK hP hD hS (2) 0 ow_2 rfl hx hj (by decide) (ow_set (f := upd (σ 0 0) j v) rfl (by simp [oc, ob_b, uA])) hdg kk
theorem ia_1 {x : Int32} {j : Nat} {own : String} (F : CallFix p m c cc nL s args (cw :: tt) own) (hK : va_K D vwCl (ot cI cL) s) (hP : va_P D vwCl (ow cI cL ad σ) H) (hx : x = nI j) (hj : j < 5) (hdg : decode cc pc = .ok (.iaload, 1)) (kk : W p l e R s m args below meth c H locs cells slots Q (F0 m (pc + 1) ls (.int (σ 1 0 j) :: rest))) : W p l e R s m args below meth c H locs cells slots Q (F0 m pc ls (.int x :: .ref (ad 3) :: rest)) :=
  ok_iald F hK hP (3) 0 ow_3 rfl hx hj (by decide) hdg kk
theorem sa_1 {x v : Int32} {j : Nat} {own : String} (F : CallFix p m c cc nL s args (cw :: tt) own) (hK : va_K D vwCl (ot cI cL) s) (hP : va_P D vwCl (ow cI cL ad σ) H) (hD : va_D A (ow cI cL ad σ)) (hS : va_S A H0 H locs) (hx : x = nI j) (hj : j < 5) (hdg : decode cc pc = .ok (.iastore, 1)) (kk : ∀ (H1 : Heap) (locs1 : List Loc), va_P D vwCl (ow cI cL ad (u3 σ 1 0 j v)) H1 → va_D A (ow cI cL ad (u3 σ 1 0 j v)) → va_S A H0 H1 locs1 → W p l e R s m args below meth c H1 locs1 cells slots Q (F0 m (pc + 1) ls rest)) : W p l e R s m args below meth c H locs cells slots Q (F0 m pc ls (.int v :: .int x :: .ref (ad 3) :: rest)) :=
  ok_iast F hK hP hD hS (3) 0 ow_3 rfl hx hj (by decide) (ow_set (f := upd (σ 1 0) j v) rfl (by simp [oc, ob_b, uA])) hdg kk
theorem ia_11 {x : Int32} {j : Nat} {own : String} (F : CallFix p m c cc nL s args (cw :: tt) own) (hK : va_K D vwCl (ot cI cL) s) (hP : va_P D vwCl (ow cI cL ad σ) H) (hx : x = nI j) (hj : j < 5) (hdg : decode cc pc = .ok (.iaload, 1)) (kk : W p l e R s m args below meth c H locs cells slots Q (F0 m (pc + 1) ls (.int (σ 11 0 j) :: rest))) : W p l e R s m args below meth c H locs cells slots Q (F0 m pc ls (.int x :: .ref (ad 8) :: rest)) :=
  ok_iald F hK hP (8) 0 ow_8 rfl hx hj (by decide) hdg kk
theorem sa_11 {x v : Int32} {j : Nat} {own : String} (F : CallFix p m c cc nL s args (cw :: tt) own) (hK : va_K D vwCl (ot cI cL) s) (hP : va_P D vwCl (ow cI cL ad σ) H) (hD : va_D A (ow cI cL ad σ)) (hS : va_S A H0 H locs) (hx : x = nI j) (hj : j < 5) (hdg : decode cc pc = .ok (.iastore, 1)) (kk : ∀ (H1 : Heap) (locs1 : List Loc), va_P D vwCl (ow cI cL ad (u3 σ 11 0 j v)) H1 → va_D A (ow cI cL ad (u3 σ 11 0 j v)) → va_S A H0 H1 locs1 → W p l e R s m args below meth c H1 locs1 cells slots Q (F0 m (pc + 1) ls rest)) : W p l e R s m args below meth c H locs cells slots Q (F0 m pc ls (.int v :: .int x :: .ref (ad 8) :: rest)) :=
  ok_iast F hK hP hD hS (8) 0 ow_8 rfl hx hj (by decide) (ow_set (f := upd (σ 11 0) j v) rfl (by simp [oc, ob_b, uA])) hdg kk
theorem ia_12 {x : Int32} {j : Nat} {own : String} (F : CallFix p m c cc nL s args (cw :: tt) own) (hK : va_K D vwCl (ot cI cL) s) (hP : va_P D vwCl (ow cI cL ad σ) H) (hx : x = nI j) (hj : j < 5) (hdg : decode cc pc = .ok (.iaload, 1)) (kk : W p l e R s m args below meth c H locs cells slots Q (F0 m (pc + 1) ls (.int (σ 12 0 j) :: rest))) : W p l e R s m args below meth c H locs cells slots Q (F0 m pc ls (.int x :: .ref (ad 9) :: rest)) :=
  ok_iald F hK hP (9) 0 ow_9 rfl hx hj (by decide) hdg kk
theorem sa_12 {x v : Int32} {j : Nat} {own : String} (F : CallFix p m c cc nL s args (cw :: tt) own) (hK : va_K D vwCl (ot cI cL) s) (hP : va_P D vwCl (ow cI cL ad σ) H) (hD : va_D A (ow cI cL ad σ)) (hS : va_S A H0 H locs) (hx : x = nI j) (hj : j < 5) (hdg : decode cc pc = .ok (.iastore, 1)) (kk : ∀ (H1 : Heap) (locs1 : List Loc), va_P D vwCl (ow cI cL ad (u3 σ 12 0 j v)) H1 → va_D A (ow cI cL ad (u3 σ 12 0 j v)) → va_S A H0 H1 locs1 → W p l e R s m args below meth c H1 locs1 cells slots Q (F0 m (pc + 1) ls rest)) : W p l e R s m args below meth c H locs cells slots Q (F0 m pc ls (.int v :: .int x :: .ref (ad 9) :: rest)) :=
  ok_iast F hK hP hD hS (9) 0 ow_9 rfl hx hj (by decide) (ow_set (f := upd (σ 12 0) j v) rfl (by simp [oc, ob_b, uA])) hdg kk
theorem ia_13 {x : Int32} {j : Nat} {own : String} (F : CallFix p m c cc nL s args (cw :: tt) own) (hK : va_K D vwCl (ot cI cL) s) (hP : va_P D vwCl (ow cI cL ad σ) H) (hx : x = nI j) (hj : j < 6) (hdg : decode cc pc = .ok (.iaload, 1)) (kk : W p l e R s m args below meth c H locs cells slots Q (F0 m (pc + 1) ls (.int (σ 13 0 j) :: rest))) : W p l e R s m args below meth c H locs cells slots Q (F0 m pc ls (.int x :: .ref (ad 10) :: rest)) :=
  ok_iald F hK hP (10) 0 ow_10 rfl hx hj (by decide) hdg kk
theorem sa_13 {x v : Int32} {j : Nat} {own : String} (F : CallFix p m c cc nL s args (cw :: tt) own) (hK : va_K D vwCl (ot cI cL) s) (hP : va_P D vwCl (ow cI cL ad σ) H) (hD : va_D A (ow cI cL ad σ)) (hS : va_S A H0 H locs) (hx : x = nI j) (hj : j < 6) (hdg : decode cc pc = .ok (.iastore, 1)) (kk : ∀ (H1 : Heap) (locs1 : List Loc), va_P D vwCl (ow cI cL ad (u3 σ 13 0 j v)) H1 → va_D A (ow cI cL ad (u3 σ 13 0 j v)) → va_S A H0 H1 locs1 → W p l e R s m args below meth c H1 locs1 cells slots Q (F0 m (pc + 1) ls rest)) : W p l e R s m args below meth c H locs cells slots Q (F0 m pc ls (.int v :: .int x :: .ref (ad 10) :: rest)) :=
  ok_iast F hK hP hD hS (10) 0 ow_10 rfl hx hj (by decide) (ow_set (f := upd (σ 13 0) j v) rfl (by simp [oc, ob_b, uA])) hdg kk
theorem ia_14 {x : Int32} {j : Nat} {own : String} (F : CallFix p m c cc nL s args (cw :: tt) own) (hK : va_K D vwCl (ot cI cL) s) (hP : va_P D vwCl (ow cI cL ad σ) H) (hx : x = nI j) (hj : j < 6) (hdg : decode cc pc = .ok (.iaload, 1)) (kk : W p l e R s m args below meth c H locs cells slots Q (F0 m (pc + 1) ls (.int (σ 14 0 j) :: rest))) : W p l e R s m args below meth c H locs cells slots Q (F0 m pc ls (.int x :: .ref (ad 11) :: rest)) :=
  ok_iald F hK hP (11) 0 ow_11 rfl hx hj (by decide) hdg kk
theorem sa_14 {x v : Int32} {j : Nat} {own : String} (F : CallFix p m c cc nL s args (cw :: tt) own) (hK : va_K D vwCl (ot cI cL) s) (hP : va_P D vwCl (ow cI cL ad σ) H) (hD : va_D A (ow cI cL ad σ)) (hS : va_S A H0 H locs) (hx : x = nI j) (hj : j < 6) (hdg : decode cc pc = .ok (.iastore, 1)) (kk : ∀ (H1 : Heap) (locs1 : List Loc), va_P D vwCl (ow cI cL ad (u3 σ 14 0 j v)) H1 → va_D A (ow cI cL ad (u3 σ 14 0 j v)) → va_S A H0 H1 locs1 → W p l e R s m args below meth c H1 locs1 cells slots Q (F0 m (pc + 1) ls rest)) : W p l e R s m args below meth c H locs cells slots Q (F0 m pc ls (.int v :: .int x :: .ref (ad 11) :: rest)) :=
  ok_iast F hK hP hD hS (11) 0 ow_11 rfl hx hj (by decide) (ow_set (f := upd (σ 14 0) j v) rfl (by simp [oc, ob_b, uA])) hdg kk
theorem ia_19 {x : Int32} {j : Nat} {own : String} (F : CallFix p m c cc nL s args (cw :: tt) own) (hK : va_K D vwCl (ot cI cL) s) (hP : va_P D vwCl (ow cI cL ad σ) H) (hx : x = nI j) (hj : j < 5) (hdg : decode cc pc = .ok (.iaload, 1)) (kk : W p l e R s m args below meth c H locs cells slots Q (F0 m (pc + 1) ls (.int (σ 19 0 j) :: rest))) : W p l e R s m args below meth c H locs cells slots Q (F0 m pc ls (.int x :: .ref (ad 13) :: rest)) :=
  ok_iald F hK hP (13) 0 ow_13 rfl hx hj (by decide) hdg kk
theorem sa_19 {x v : Int32} {j : Nat} {own : String} (F : CallFix p m c cc nL s args (cw :: tt) own) (hK : va_K D vwCl (ot cI cL) s) (hP : va_P D vwCl (ow cI cL ad σ) H) (hD : va_D A (ow cI cL ad σ)) (hS : va_S A H0 H locs) (hx : x = nI j) (hj : j < 5) (hdg : decode cc pc = .ok (.iastore, 1)) (kk : ∀ (H1 : Heap) (locs1 : List Loc), va_P D vwCl (ow cI cL ad (u3 σ 19 0 j v)) H1 → va_D A (ow cI cL ad (u3 σ 19 0 j v)) → va_S A H0 H1 locs1 → W p l e R s m args below meth c H1 locs1 cells slots Q (F0 m (pc + 1) ls rest)) : W p l e R s m args below meth c H locs cells slots Q (F0 m pc ls (.int v :: .int x :: .ref (ad 13) :: rest)) :=
  ok_iast F hK hP hD hS (13) 0 ow_13 rfl hx hj (by decide) (ow_set (f := upd (σ 19 0) j v) rfl (by simp [oc, ob_b, uA])) hdg kk
theorem ia_3 {x : Int32} {j : Nat} {own : String} (F : CallFix p m c cc nL s args (cw :: tt) own) (hK : va_K D vwCl (ot cI cL) s) (hP : va_P D vwCl (ow cI cL ad σ) H) (hi : i < 8) (hx : x = nI j) (hj : j < 5) (hdg : decode cc pc = .ok (.iaload, 1)) (kk : W p l e R s m args below meth c H locs cells slots Q (F0 m (pc + 1) ls (.int (σ 3 i j) :: rest))) : W p l e R s m args below meth c H locs cells slots Q (F0 m pc ls (.int x :: .ref (ad (4 * i + 15)) :: rest)) :=
  ok_iald F hK hP (4 * i + 15) 0 (ow_l1 hi) rfl hx hj (by decide) hdg kk
theorem sa_3 {x v : Int32} {j : Nat} {own : String} (F : CallFix p m c cc nL s args (cw :: tt) own) (hK : va_K D vwCl (ot cI cL) s) (hP : va_P D vwCl (ow cI cL ad σ) H) (hD : va_D A (ow cI cL ad σ)) (hS : va_S A H0 H locs) (hi : i < 8) (hx : x = nI j) (hj : j < 5) (hdg : decode cc pc = .ok (.iastore, 1)) (kk : ∀ (H1 : Heap) (locs1 : List Loc), va_P D vwCl (ow cI cL ad (u3 σ 3 i j v)) H1 → va_D A (ow cI cL ad (u3 σ 3 i j v)) → va_S A H0 H1 locs1 → W p l e R s m args below meth c H1 locs1 cells slots Q (F0 m (pc + 1) ls rest)) : W p l e R s m args below meth c H locs cells slots Q (F0 m pc ls (.int v :: .int x :: .ref (ad (4 * i + 15)) :: rest)) :=
  ok_iast F hK hP hD hS (4 * i + 15) 0 (ow_l1 hi) rfl hx hj (by decide) (ow_set (f := upd (σ 3 i) j v) rfl (by rw [oc_l1]; simp [ob_l, uA])) hdg kk
theorem ia_7 {x : Int32} {j : Nat} {own : String} (F : CallFix p m c cc nL s args (cw :: tt) own) (hK : va_K D vwCl (ot cI cL) s) (hP : va_P D vwCl (ow cI cL ad σ) H) (hi : i < 8) (hx : x = nI j) (hj : j < 6) (hdg : decode cc pc = .ok (.iaload, 1)) (kk : W p l e R s m args below meth c H locs cells slots Q (F0 m (pc + 1) ls (.int (σ 7 i j) :: rest))) : W p l e R s m args below meth c H locs cells slots Q (F0 m pc ls (.int x :: .ref (ad (4 * i + 16)) :: rest)) :=
  ok_iald F hK hP (4 * i + 16) 0 (ow_l2 hi) rfl hx hj (by decide) hdg kk
theorem sa_7 {x v : Int32} {j : Nat} {own : String} (F : CallFix p m c cc nL s args (cw :: tt) own) (hK : va_K D vwCl (ot cI cL) s) (hP : va_P D vwCl (ow cI cL ad σ) H) (hD : va_D A (ow cI cL ad σ)) (hS : va_S A H0 H locs) (hi : i < 8) (hx : x = nI j) (hj : j < 6) (hdg : decode cc pc = .ok (.iastore, 1)) (kk : ∀ (H1 : Heap) (locs1 : List Loc), va_P D vwCl (ow cI cL ad (u3 σ 7 i j v)) H1 → va_D A (ow cI cL ad (u3 σ 7 i j v)) → va_S A H0 H1 locs1 → W p l e R s m args below meth c H1 locs1 cells slots Q (F0 m (pc + 1) ls rest)) : W p l e R s m args below meth c H locs cells slots Q (F0 m pc ls (.int v :: .int x :: .ref (ad (4 * i + 16)) :: rest)) :=
  ok_iast F hK hP hD hS (4 * i + 16) 0 (ow_l2 hi) rfl hx hj (by decide) (ow_set (f := upd (σ 7 i) j v) rfl (by rw [oc_l2]; simp [ob_l, uA])) hdg kk
theorem ia_8 {x : Int32} {j : Nat} {own : String} (F : CallFix p m c cc nL s args (cw :: tt) own) (hK : va_K D vwCl (ot cI cL) s) (hP : va_P D vwCl (ow cI cL ad σ) H) (hi : i < 8) (hx : x = nI j) (hj : j < 6) (hdg : decode cc pc = .ok (.iaload, 1)) (kk : W p l e R s m args below meth c H locs cells slots Q (F0 m (pc + 1) ls (.int (σ 8 i j) :: rest))) : W p l e R s m args below meth c H locs cells slots Q (F0 m pc ls (.int x :: .ref (ad (4 * i + 17)) :: rest)) :=
  ok_iald F hK hP (4 * i + 17) 0 (ow_l3 hi) rfl hx hj (by decide) hdg kk
theorem sa_8 {x v : Int32} {j : Nat} {own : String} (F : CallFix p m c cc nL s args (cw :: tt) own) (hK : va_K D vwCl (ot cI cL) s) (hP : va_P D vwCl (ow cI cL ad σ) H) (hD : va_D A (ow cI cL ad σ)) (hS : va_S A H0 H locs) (hi : i < 8) (hx : x = nI j) (hj : j < 6) (hdg : decode cc pc = .ok (.iastore, 1)) (kk : ∀ (H1 : Heap) (locs1 : List Loc), va_P D vwCl (ow cI cL ad (u3 σ 8 i j v)) H1 → va_D A (ow cI cL ad (u3 σ 8 i j v)) → va_S A H0 H1 locs1 → W p l e R s m args below meth c H1 locs1 cells slots Q (F0 m (pc + 1) ls rest)) : W p l e R s m args below meth c H locs cells slots Q (F0 m pc ls (.int v :: .int x :: .ref (ad (4 * i + 17)) :: rest)) :=
  ok_iast F hK hP hD hS (4 * i + 17) 0 (ow_l3 hi) rfl hx hj (by decide) (ow_set (f := upd (σ 8 i) j v) rfl (by rw [oc_l3]; simp [ob_l, uA])) hdg kk
theorem ok_copy {own : String} {index n9 : Nat} {x : Int32} (F : CallFix p m c cc nL s args (cw :: tt) own) (hK : va_K D vwCl (ot cI cL) s) (hP : va_P D vwCl (ow cI cL ad σ) H) (hD : va_D A (ow cI cL ad σ)) (hS : va_S A H0 H locs) (hl9 : Cond.methodLink own index arraycopyName ∈ cw :: tt) (hsz : ls.size = nL) (hx : x = nI n9) (hn : n9 ≤ 5) (hframes : 1 ≤ R.frames) (hlocals : (rest.map fun v => v.category).sum + 18 ≤ R.locals) (hdg : decode cc pc = .ok (.invokestatic index, 3))
    (kk : ∀ (H1 : Heap) (locs1 : List Loc), va_P D vwCl (ow cI cL ad (uA σ 12 0 (va_cpy (σ 11 0) (σ 12 0) 0 0 n9))) H1 → va_D A (ow cI cL ad (uA σ 12 0 (va_cpy (σ 11 0) (σ 12 0) 0 0 n9))) → va_S A H0 H1 locs1 → W p l e R s m args below meth c H1 locs1 cells slots Q (F0 m (pc + 3) ls rest)) : W p l e R s m args below meth c H locs cells slots Q (F0 m pc ls (.int x :: .int 0 :: .ref (ad 9) :: .int 0 :: .ref (ad 8) :: rest)) := by
  subst hx
  have h0 : (0 : Int32).toNatClampNeg = 0 := by decide
  have hn1 : (nI n9).toNatClampNeg = n9 := nI_clamp (by omega)
  refine va_copyi (ty := .int) F.1 F.2.1 (F.2.2.1.trans hsz.symm) F.2.2.2.1 (F.2.2.2.2 _ hl9) (F.2.2.2.2 _ (List.mem_cons_of_mem _ (tt3 31 rfl rfl))) (F.2.2.2.2 _ (List.mem_cons_of_mem _ (tt3 30 rfl rfl))) (F.2.2.2.2 _ (List.mem_cons_of_mem _ (tt1 15 rfl rfl))) hK hP hD hS 8 9 0 0 ow_8 ow_9 rfl rfl rfl (by decide) (by decide) (nI_pos (by omega)) (by rw [h0, hn1]; omega) (by rw [h0, hn1]; omega) (fun i _ => rfl) hframes hlocals hdg ?_
  intro H1 locs1 h1 h2 h3
  rw [h0, hn1] at h1 h2
  rw [ow_set (k := 9) (c := 12) (i := 0) (f := va_cpy (σ 11 0) (σ 12 0) 0 0 n9) rfl (by simp [oc, ob_b, uA])] at h1 h2
  exact kk H1 locs1 h1 h2 h3
end OF
