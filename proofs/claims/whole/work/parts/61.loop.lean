def st_column (l : Launch) (Rel : oS → oS → Prop) : Prop := ∀ (σ μ : oS), Rel σ μ → ∀ (x y : Int32) (D : va_G) (cI cL cZ cJ : ClassId) (ad am : Nat → Nat) (o : Nat) (fj : Nat → Int64), ∃ (rw rm : Room) (v : Int32) (k : Int32) (τ ν : oS) (fk : Nat → Int64), rw9 rw ∧ ok_MW l y_La_column (Cond.codeWith y_La_column b_La_column 5 (some .int) [((0 : Nat), (10 : Nat), (13 : Nat), (13 : Nat)), ((0 : Nat), (10 : Nat), (17 : Nat), (15 : Nat))] :: tt) rw D vwCl (lt3 cI cL cJ) (lo cJ o fj ++ ow cI cL ad σ) (lo cJ o fk ++ ow cI cL ad τ) [.ref (ad 0), .int x, .int y, .ref o] (some (.int k)) ∧ rm9 rm ∧ ok_MM l y_Mo_column (Cond.code y_Mo_column b_Mo_column 3 (some .int) :: tt) rm D vwCl (mt cI cZ) (mw cI cZ am μ) (mw cI cZ am ν) [.ref (am 0), .int x, .int y] (some (.int v)) ∧ ν 0 0 0 = k ∧ (k = 0 → fk 0 = Int32.toInt64 v) ∧ Rel τ ν
def st_row (l : Launch) (Rel : oS → oS → Prop) : Prop := ∀ (σ μ : oS), Rel σ μ → ∀ (x y : Int32) (D : va_G) (cI cL cZ cJ : ClassId) (ad am : Nat → Nat) (o : Nat) (fj : Nat → Int64), ∃ (rw rm : Room) (v : Int32) (k : Int32) (τ ν : oS) (fk : Nat → Int64), rw9 rw ∧ ok_MW l y_La_row (Cond.codeWith y_La_row b_La_row 5 (some .int) [((0 : Nat), (10 : Nat), (13 : Nat), (13 : Nat)), ((0 : Nat), (10 : Nat), (17 : Nat), (15 : Nat))] :: tt) rw D vwCl (lt3 cI cL cJ) (lo cJ o fj ++ ow cI cL ad σ) (lo cJ o fk ++ ow cI cL ad τ) [.ref (ad 0), .int x, .int y, .ref o] (some (.int k)) ∧ rm9 rm ∧ ok_MM l y_Mo_row (Cond.code y_Mo_row b_Mo_row 3 (some .int) :: tt) rm D vwCl (mt cI cZ) (mw cI cZ am μ) (mw cI cZ am ν) [.ref (am 0), .int x, .int y] (some (.int v)) ∧ ν 0 0 0 = k ∧ (k = 0 → fk 0 = Int32.toInt64 v) ∧ Rel τ ν
def st_factor (l : Launch) (Rel : oS → oS → Prop) : Prop := ∀ (σ μ : oS), Rel σ μ → ∀ (x y z : Int32) (D : va_G) (cI cL cZ cJ : ClassId) (ad am : Nat → Nat) (o : Nat) (fj : Nat → Int64), ∃ (rw rm : Room) (k : Int32) (τ ν : oS), rw9 rw ∧ ok_MW l y_La_factor (Cond.codeWith y_La_factor b_La_factor 5 (some .int) [((0 : Nat), (7 : Nat), (10 : Nat), (24 : Nat)), ((0 : Nat), (7 : Nat), (14 : Nat), (13 : Nat))] :: tt) rw D vwCl (lt3 cI cL cJ) (lo cJ o fj ++ ow cI cL ad σ) (lo cJ o fj ++ ow cI cL ad τ) [.ref (ad 0), .int x, .int y, .int z] (some (.int k)) ∧ rm9 rm ∧ ok_MM l y_Mo_factor (Cond.code y_Mo_factor b_Mo_factor 4 none :: tt) rm D vwCl (mt cI cZ) (mw cI cZ am μ) (mw cI cZ am ν) [.ref (am 0), .int x, .int y, .int z] none ∧ ν 0 0 0 = k ∧ Rel τ ν
def st_right (l : Launch) (Rel : oS → oS → Prop) : Prop := ∀ (σ μ : oS), Rel σ μ → ∀ (x y : Int32) (D : va_G) (cI cL cZ cJ : ClassId) (ad am : Nat → Nat) (o : Nat) (fj : Nat → Int64), ∃ (rw rm : Room) (k : Int32) (τ ν : oS), rw9 rw ∧ ok_MW l y_La_right (Cond.codeWith y_La_right b_La_right 4 (some .int) [((0 : Nat), (6 : Nat), (9 : Nat), (24 : Nat)), ((0 : Nat), (6 : Nat), (12 : Nat), (13 : Nat))] :: tt) rw D vwCl (lt3 cI cL cJ) (lo cJ o fj ++ ow cI cL ad σ) (lo cJ o fj ++ ow cI cL ad τ) [.ref (ad 0), .int x, .int y] (some (.int k)) ∧ rm9 rm ∧ ok_MM l y_Mo_right (Cond.code y_Mo_right b_Mo_right 3 none :: tt) rm D vwCl (mt cI cZ) (mw cI cZ am μ) (mw cI cZ am ν) [.ref (am 0), .int x, .int y] none ∧ ν 0 0 0 = k ∧ Rel τ ν
def st_cut (l : Launch) (Rel : oS → oS → Prop) : Prop := ∀ (σ μ : oS), Rel σ μ → ∀ (x y : Int32) (D : va_G) (cI cL cZ cJ : ClassId) (ad am : Nat → Nat) (o : Nat) (fj : Nat → Int64), ∃ (rw rm : Room) (v : Int32) (k : Int32) (τ ν : oS) (fk : Nat → Int64), rw9 rw ∧ ok_MW l y_La_cut (Cond.codeWith y_La_cut b_La_cut 5 (some .int) [((0 : Nat), (10 : Nat), (13 : Nat), (24 : Nat)), ((0 : Nat), (10 : Nat), (17 : Nat), (15 : Nat))] :: tt) rw D vwCl (lt3 cI cL cJ) (lo cJ o fj ++ ow cI cL ad σ) (lo cJ o fk ++ ow cI cL ad τ) [.ref (ad 0), .int x, .int y, .ref o] (some (.int k)) ∧ rm9 rm ∧ ok_MM l y_Mo_cut (Cond.code y_Mo_cut b_Mo_cut 5 (some .int) :: tt) rm D vwCl (mt cI cZ) (mw cI cZ am μ) (mw cI cZ am ν) [.ref (am 0), .int x, .int y] (some (.int v)) ∧ ν 0 0 0 = k ∧ (k = 0 → fk 0 = Int32.toInt64 v) ∧ Rel τ ν
def st_run (l : Launch) (Rel : oS → oS → Prop) : Prop := ∀ (σ μ : oS), Rel σ μ → ∀ (x : Int32) (D : va_G) (cI cL cZ cJ : ClassId) (ad am : Nat → Nat) (o : Nat) (fj : Nat → Int64), ∃ (rw rm : Room) (v : Int32) (k : Int32) (τ ν : oS) (fk : Nat → Int64), rw9 rw ∧ ok_MW l y_La_run (Cond.codeWith y_La_run b_La_run 4 (some .int) [((0 : Nat), (9 : Nat), (12 : Nat), (13 : Nat))] :: tt) rw D vwCl (lt3 cI cL cJ) (lo cJ o fj ++ ow cI cL ad σ) (lo cJ o fk ++ ow cI cL ad τ) [.ref (ad 0), .int x, .ref o] (some (.int k)) ∧ rm9 rm ∧ ok_MM l y_Mo_run (Cond.code y_Mo_run b_Mo_run 3 (some .int) :: tt) rm D vwCl (mt cI cZ) (mw cI cZ am μ) (mw cI cZ am ν) [.ref (am 0), .int x] (some (.int v)) ∧ ν 0 0 0 = k ∧ (k = 0 → fk 0 = Int32.toInt64 v) ∧ Rel τ ν
def st_told (l : Launch) (Rel : oS → oS → Prop) : Prop := ∀ (σ μ : oS), Rel σ μ → ∀ (x : Int32) (D : va_G) (cI cL cZ cJ : ClassId) (ad am : Nat → Nat) (o : Nat) (fj : Nat → Int64), ∃ (rw rm : Room) (v : Int32) (k : Int32) (τ ν : oS) (fk : Nat → Int64), rw9 rw ∧ ok_MW l y_La_told (Cond.codeWith y_La_told b_La_told 4 (some .int) [((0 : Nat), (9 : Nat), (12 : Nat), (24 : Nat)), ((0 : Nat), (9 : Nat), (15 : Nat), (40 : Nat))] :: tt) rw D vwCl (lt3 cI cL cJ) (lo cJ o fj ++ ow cI cL ad σ) (lo cJ o fk ++ ow cI cL ad τ) [.ref (ad 0), .int x, .ref o] (some (.int k)) ∧ rm9 rm ∧ ok_MM l y_Mo_told (Cond.code y_Mo_told b_Mo_told 2 (some .int) :: tt) rm D vwCl (mt cI cZ) (mw cI cZ am μ) (mw cI cZ am ν) [.ref (am 0), .int x] (some (.int v)) ∧ ν 0 0 0 = k ∧ (k = 0 → fk 0 = Int32.toInt64 v) ∧ Rel τ ν
def st_value (l : Launch) (Rel : oS → oS → Prop) : Prop := ∀ (σ μ : oS), Rel σ μ → ∀ (x : Int32) (D : va_G) (cI cL cZ cJ : ClassId) (ad am : Nat → Nat) (o : Nat) (fj : Nat → Int64), ∃ (rw rm : Room) (v : Int32) (k : Int32) (τ ν : oS) (fk : Nat → Int64), rw9 rw ∧ ok_MW l y_La_value (Cond.codeWith y_La_value b_La_value 4 (some .int) [((0 : Nat), (9 : Nat), (12 : Nat), (24 : Nat)), ((0 : Nat), (9 : Nat), (15 : Nat), (40 : Nat))] :: tt) rw D vwCl (lt3 cI cL cJ) (lo cJ o fj ++ ow cI cL ad σ) (lo cJ o fk ++ ow cI cL ad τ) [.ref (ad 0), .int x, .ref o] (some (.int k)) ∧ rm9 rm ∧ ok_MM l y_Mo_value (Cond.code y_Mo_value b_Mo_value 2 (some .int) :: tt) rm D vwCl (mt cI cZ) (mw cI cZ am μ) (mw cI cZ am ν) [.ref (am 0), .int x] (some (.int v)) ∧ ν 0 0 0 = k ∧ (k = 0 → fk 0 = Int32.toInt64 v) ∧ Rel τ ν
def st_multiplier (l : Launch) (Rel : oS → oS → Prop) : Prop := ∀ (σ μ : oS), Rel σ μ → ∀ (x y : Int32) (D : va_G) (cI cL cZ cJ : ClassId) (ad am : Nat → Nat) (o : Nat) (fj : Nat → Int64), ∃ (rw rm : Room) (k : Int32) (τ ν : oS), rw9 rw ∧ ok_MW l y_La_multiplier (Cond.codeWith y_La_multiplier b_La_multiplier 4 (some .int) [((0 : Nat), (6 : Nat), (9 : Nat), (24 : Nat)), ((0 : Nat), (6 : Nat), (12 : Nat), (13 : Nat))] :: tt) rw D vwCl (lt3 cI cL cJ) (lo cJ o fj ++ ow cI cL ad σ) (lo cJ o fj ++ ow cI cL ad τ) [.ref (ad 0), .int x, .int y] (some (.int k)) ∧ rm9 rm ∧ ok_MM l y_Mo_multiplier (Cond.code y_Mo_multiplier b_Mo_multiplier 4 none :: tt) rm D vwCl (mt cI cZ) (mw cI cZ am μ) (mw cI cZ am ν) [.ref (am 0), .int x, .int y] none ∧ ν 0 0 0 = k ∧ Rel τ ν
def st_certificate (l : Launch) (Rel : oS → oS → Prop) : Prop := ∀ (σ μ : oS), Rel σ μ → ∀ (D : va_G) (cI cL cZ cJ : ClassId) (ad am : Nat → Nat) (o : Nat) (fj : Nat → Int64), ∃ (rw rm : Room) (v : Int64) (ν : oS), rm9 rw ∧ ok_MR l y_OB_certificate (Cond.code y_OB_certificate b_OB_certificate 6 (some .long) :: tt) rw D vwCl (ot cI cL) (ow cI cL ad σ) [.ref (ad 0)] (some (.long v)) ∧ rm9 rm ∧ ok_MM l y_Mo_certificate (Cond.code y_Mo_certificate b_Mo_certificate 7 (some .long) :: tt) rm D vwCl (mt cI cZ) (mw cI cZ am μ) (mw cI cZ am ν) [.ref (am 0)] (some (.long v)) ∧ Rel σ ν
def st_contradiction (l : Launch) (Rel : oS → oS → Prop) : Prop := ∀ (σ μ : oS), Rel σ μ → ∀ (D : va_G) (cI cL cZ cJ : ClassId) (ad am : Nat → Nat) (o : Nat) (fj : Nat → Int64), ∃ (rw rm : Room) (v : Int32) (ν : oS), rm9 rw ∧ ok_MR l y_OB_contradiction (Cond.code y_OB_contradiction b_OB_contradiction 2 (some .int) :: tt) rw D vwCl (ot cI cL) (ow cI cL ad σ) [.ref (ad 0)] (some (.int v)) ∧ rm9 rm ∧ ok_MM l y_Mo_contradiction (Cond.code y_Mo_contradiction b_Mo_contradiction 2 (some .int) :: tt) rm D vwCl (mt cI cZ) (mw cI cZ am μ) (mw cI cZ am ν) [.ref (am 0)] (some (.int v)) ∧ Rel σ ν
def st_check (l : Launch) (Rel : oS → oS → Prop) : Prop := ∀ (σ μ : oS), Rel σ μ → ∀ (x : Int32) (D : va_G) (cI cL cZ cJ : ClassId) (ad am : Nat → Nat) (o : Nat) (fj : Nat → Int64), ∃ (rw rm : Room) (v : Int32) (ν : oS), rm9 rw ∧ ok_MR l y_OB_check (Cond.code y_OB_check b_OB_check 3 (some .int) :: tt) rw D vwCl (ot cI cL) (ow cI cL ad σ) [.ref (ad 0), .int x] (some (.int v)) ∧ rm9 rm ∧ ok_MM l y_Mo_check (Cond.code y_Mo_check b_Mo_check 3 (some .int) :: tt) rm D vwCl (mt cI cZ) (mw cI cZ am μ) (mw cI cZ am ν) [.ref (am 0), .int x] (some (.int v)) ∧ Rel σ ν
def st_follow (l : Launch) (Rel : oS → oS → Prop) : Prop := ∀ (σ μ : oS), Rel σ μ → ∀ (x y : Int32) (D : va_G) (cI cL cZ cJ : ClassId) (ad am : Nat → Nat) (o : Nat) (fj : Nat → Int64), ∃ (rw rm : Room) (v : Int32) (k : Int32) (τ ν : oS) (fk : Nat → Int64), rw9 rw ∧ ok_MW l y_La_follow (Cond.codeWith y_La_follow b_La_follow 5 (some .int) [((0 : Nat), (10 : Nat), (13 : Nat), (24 : Nat)), ((0 : Nat), (10 : Nat), (17 : Nat), (15 : Nat))] :: tt) rw D vwCl (lt3 cI cL cJ) (lo cJ o fj ++ ow cI cL ad σ) (lo cJ o fk ++ ow cI cL ad τ) [.ref (ad 0), .int x, .int y, .ref o] (some (.int k)) ∧ rm9 rm ∧ ok_MM l y_Mo_follow (Cond.code y_Mo_follow b_Mo_follow 4 (some .int) :: tt) rm D vwCl (mt cI cZ) (mw cI cZ am μ) (mw cI cZ am ν) [.ref (am 0), .int x, .int y] (some (.int v)) ∧ ν 0 0 0 = k ∧ (k = 0 → fk 0 = Int32.toInt64 v) ∧ Rel τ ν
def st_chain (l : Launch) (Rel : oS → oS → Prop) : Prop := ∀ (σ μ : oS), Rel σ μ → ∀ (x : Int32) (D : va_G) (cI cL cZ cJ : ClassId) (ad am : Nat → Nat) (o : Nat) (fj : Nat → Int64), ∃ (rw rm : Room) (v : Int32) (k : Int32) (τ ν : oS) (fk : Nat → Int64), rw9 rw ∧ ok_MW l y_La_chain (Cond.codeWith y_La_chain b_La_chain 4 (some .int) [((0 : Nat), (9 : Nat), (12 : Nat), (24 : Nat))] :: tt) rw D vwCl (lt3 cI cL cJ) (lo cJ o fj ++ ow cI cL ad σ) (lo cJ o fk ++ ow cI cL ad τ) [.ref (ad 0), .int x, .ref o] (some (.int k)) ∧ rm9 rm ∧ ok_MM l y_Mo_chain (Cond.code y_Mo_chain b_Mo_chain 5 (some .int) :: tt) rm D vwCl (mt cI cZ) (mw cI cZ am μ) (mw cI cZ am ν) [.ref (am 0), .int x] (some (.int v)) ∧ ν 0 0 0 = k ∧ (k = 0 → fk 0 = Int32.toInt64 v) ∧ Rel τ ν
def st_all (l : Launch) (Rel : oS → oS → Prop) : Prop := st_column l Rel ∧ st_row l Rel ∧ st_factor l Rel ∧ st_right l Rel ∧ st_cut l Rel ∧ st_run l Rel ∧ st_told l Rel ∧ st_value l Rel ∧ st_multiplier l Rel ∧ st_certificate l Rel ∧ st_contradiction l Rel ∧ st_check l Rel ∧ st_follow l Rel ∧ st_chain l Rel
section
variable {p : Program} {l : Launch} {e : Env} {R : Room} {s : State} {m : MethodId} {args : Array Value} {below : List Frame} {meth : Method} {c : Code} {H : Heap} {locs : List Loc} {cells slots : Nat} {Q : State → Prop}
variable {ls : Array Slot} {D : va_G} {cI cL cZ cJ : ClassId} {ad am : Nat → Nat} {o : Nat} {A : Nat → Prop} {cw : Cond}

theorem lw_cmp {L j : Nat} (hL : L ≤ 2048) (hj : j ≤ 512) (h : ¬ (Int32.ofNat L - 4 < nI (4 * j))) : 4 * j + 4 ≤ L := by
  rw [Int32.lt_iff_toInt_lt, Int32.toInt_sub, show (Int32.ofNat L).toInt = (L : Int) from nI_toInt (by omega), nI_toInt (by omega), show (4 : Int32).toInt = 4 from rfl] at h
  have e : ((L : Int) - 4).bmod (2 ^ 32) = (L : Int) - 4 := by
    apply Int.bmod_eq_of_le <;> omega
  rw [e] at h
  omega
set_option maxHeartbeats 4000000 in
set_option maxRecDepth 100000 in
theorem lw_loop {Rel : oS → oS → Prop} {b L : Nat} {xs : Nat → Int32} (hst : st_all l Rel) (F : CallFix p m c code 7 s args (cw :: tt) RLa) (hK : va_K D vwCl (lt4 cI cL cZ cJ) s) (hZ : th_Z s) (hX : va_X b L xs s s.heap) (hbl : b < s.heap.size) (hA : ∀ q, s.heap.size ≤ q ↔ A q) (hL : L ≤ 2048) (hR : 2000 ≤ R.cells ∧ 9000 ≤ R.slots ∧ 1001 ≤ R.frames ∧ 51000 ≤ R.locals)
    (hend : ∀ (H : Heap) (locs : List Loc) (ls : Array Slot) (cells slots : Nat), va_S A s.heap H locs → cells ≤ 700 → slots ≤ 4000 → W p l e R s m args below meth c H locs cells slots Q (F0 m 818 ls [])) :
    ∀ (n j : Nat), j + n = 512 → ∀ (σ μ : oS) (fj : Nat → Int64) (H : Heap) (locs : List Loc) (ls : Array Slot) (cells slots : Nat), Rel σ μ → va_P D vwCl (mw cI cZ am μ ++ (lo cJ o fj ++ ow cI cL ad σ)) H → va_D A (mw cI cZ am μ ++ (lo cJ o fj ++ ow cI cL ad σ)) → va_S A s.heap H locs → lv_has ls 7 [(4, .int (nI (4 * j))), (3, .ref o), (2, .ref (am 0)), (1, .ref (ad 0)), (0, .ref b)] → cells ≤ 62 + j → slots ≤ 400 + 6 * j → W p l e R s m args below meth c H locs cells slots Q (F0 m 23 ls []) := by
  have hx := F.1
  have hb := F.2.1
  have hbA : ¬ A b := fun h => absurd ((hA b).mpr h) (Nat.not_le.mpr hbl)
  obtain ⟨hR1, hR2, hR3, hR4⟩ := hR
  intro n
  induction n with
  | zero =>
    intro j hjn σ μ fj H locs ls cells slots hr hP hD hS hl hc hs
    refine lv_iload hx hb d_La_law_23 (lv_at hl 0 rfl) ?_
    refine lv_aload_n hx hb d_La_law_25 rfl (lv_at hl 4 rfl) ?_
    refine va_slen hx hb hX hbl hbA hS d_La_law_26 ?_
    refine lv_iconst (v := 4) hx hb d_La_law_27 (by decide) ?_
    refine lv_isub hx hb d_La_law_28 ?_
    refine lv_icmp_gt (tgt := 818) hx hb d_La_law_29 (by decide) (fun _ => ?_) (fun c9 => ?_)
    · exact hend H locs ls cells slots hS (by omega) (by omega)
    · have := lw_cmp hL (by omega) c9
      omega
  | succ n ih =>
    intro j hjn σ μ fj H locs ls cells slots hr hP hD hS hl hc hs
    have tail : ∀ (σ μ : oS) (fj : Nat → Int64) (H : Heap) (locs : List Loc) (ls : Array Slot) (cells slots : Nat), Rel σ μ → va_P D vwCl (mw cI cZ am μ ++ (lo cJ o fj ++ ow cI cL ad σ)) H → va_D A (mw cI cZ am μ ++ (lo cJ o fj ++ ow cI cL ad σ)) → va_S A s.heap H locs → lv_has ls 7 [(4, .int (nI (4 * j))), (3, .ref o), (2, .ref (am 0)), (1, .ref (ad 0)), (0, .ref b)] → cells ≤ 62 + (j + 1) → slots ≤ 400 + 6 * (j + 1) → W p l e R s m args below meth c H locs cells slots Q (F0 m 812 ls []) := by
      intro σ μ fj H locs ls cells slots hr hP hD hS hl hc hs
      refine lv_iinc (v := nI (4 * (j + 1))) (lv' := [(4, .int (nI (4 * (j + 1)))), (3, .ref o), (2, .ref (am 0)), (1, .ref (ad 0)), (0, .ref b)]) hx hb d_La_law_812 hl (k := 0) rfl (nI_add (4 * j) 4) (by decide) rfl (fun ls hl => ?_)
      refine lv_goto (tgt := 23) hx hb d_La_law_815 (by decide) ?_
      exact ih (j + 1) (by omega) σ μ fj H locs ls cells slots hr hP hD hS hl hc hs
    refine lv_iload hx hb d_La_law_23 (lv_at hl 0 rfl) ?_
    refine lv_aload_n hx hb d_La_law_25 rfl (lv_at hl 4 rfl) ?_
    refine va_slen hx hb hX hbl hbA hS d_La_law_26 ?_
    refine lv_iconst (v := 4) hx hb d_La_law_27 (by decide) ?_
    refine lv_isub hx hb d_La_law_28 ?_
    refine lv_icmp_gt (tgt := 818) hx hb d_La_law_29 (by decide) (fun _ => ?_) (fun c9 => ?_)
    · exact hend H locs ls cells slots hS (by omega) (by omega)
    have hj : 4 * j + 4 ≤ L := lw_cmp hL (by omega) c9
    refine lv_aload_n hx hb d_La_law_32 rfl (lv_at hl 4 rfl) ?_
    refine lv_iload hx hb d_La_law_33 (lv_at hl 0 rfl) ?_
    refine lw_sld F hX hbl hbA hS (k := 4 * j) rfl (by omega) hL d_La_law_35 ?_
    refine lv_bipush (v := 15) hx hb d_La_law_36 (by decide) ?_
    refine lv_iand hx hb d_La_law_38 ?_
    generalize xs (4 * j) &&& 15 = t9
    by_cases h9 : t9.toInt < 0 ∨ 13 < t9.toInt
    · refine lv_tableOut (tgt := 812) hx hb d_La_law_39 h9 (by decide) ?_
      exact tail σ μ fj H locs ls cells slots hr hP hD hS hl (by omega) (by omega)
    have h10 : t9.toInt = 0 ∨ t9.toInt = 1 ∨ t9.toInt = 2 ∨ t9.toInt = 3 ∨ t9.toInt = 4 ∨ t9.toInt = 5 ∨ t9.toInt = 6 ∨ t9.toInt = 7 ∨ t9.toInt = 8 ∨ t9.toInt = 9 ∨ t9.toInt = 10 ∨ t9.toInt = 11 ∨ t9.toInt = 12 ∨ t9.toInt = 13 := by omega
    obtain ⟨e0, e1, e2, e3, e4, e5, e6, e7, e8, e9, e10, e11, e12, e13⟩ := hst
    rcases h10 with h10 | h10 | h10 | h10 | h10 | h10 | h10 | h10 | h10 | h10 | h10 | h10 | h10 | h10
    · refine lv_tableIn (off := 69) (tgt := 108) hx hb d_La_law_39 (by omega) (by omega) (by rw [h10]; rfl) (by decide) ?_
      obtain ⟨rw, rm, v, k, τ, ν, fk, g1, g2, g3, g4, g5, g6, g7⟩ := e0 σ μ hr (xs (4 * j + 1)) (xs (4 * j + 2)) D cI cL cZ cJ ad am o fj
      exact lb_column F hK hZ hX hbl hA hL hj ⟨by omega, by omega, hR3, hR4⟩ g1 g2 g3 g4 g5 g6 hP hD hS hl (fun H locs ls hP hD hS hl => tail τ ν fk H locs ls _ _ g7 hP hD hS hl (by omega) (by omega))
    · refine lv_tableIn (off := 137) (tgt := 176) hx hb d_La_law_39 (by omega) (by omega) (by rw [h10]; rfl) (by decide) ?_
      obtain ⟨rw, rm, v, k, τ, ν, fk, g1, g2, g3, g4, g5, g6, g7⟩ := e1 σ μ hr (xs (4 * j + 1)) (xs (4 * j + 2)) D cI cL cZ cJ ad am o fj
      exact lb_row F hK hZ hX hbl hA hL hj ⟨by omega, by omega, hR3, hR4⟩ g1 g2 g3 g4 g5 g6 hP hD hS hl (fun H locs ls hP hD hS hl => tail τ ν fk H locs ls _ _ g7 hP hD hS hl (by omega) (by omega))
    · refine lv_tableIn (off := 205) (tgt := 244) hx hb d_La_law_39 (by omega) (by omega) (by rw [h10]; rfl) (by decide) ?_
      obtain ⟨rw, rm, k, τ, ν, g1, g2, g3, g4, g5, g7⟩ := e2 σ μ hr (xs (4 * j + 1)) (xs (4 * j + 2)) (xs (4 * j + 3)) D cI cL cZ cJ ad am o fj
      exact lb_factor F hK hZ hX hbl hA hL hj ⟨by omega, by omega, hR3, hR4⟩ g1 g2 g3 g4 g5 hP hD hS hl (fun H locs ls hP hD hS hl => tail τ ν fj H locs ls _ _ g7 hP hD hS hl (by omega) (by omega))
    · refine lv_tableIn (off := 265) (tgt := 304) hx hb d_La_law_39 (by omega) (by omega) (by rw [h10]; rfl) (by decide) ?_
      obtain ⟨rw, rm, k, τ, ν, g1, g2, g3, g4, g5, g7⟩ := e3 σ μ hr (xs (4 * j + 1)) (xs (4 * j + 2)) D cI cL cZ cJ ad am o fj
      exact lb_right F hK hZ hX hbl hA hL hj ⟨by omega, by omega, hR3, hR4⟩ g1 g2 g3 g4 g5 hP hD hS hl (fun H locs ls hP hD hS hl => tail τ ν fj H locs ls _ _ g7 hP hD hS hl (by omega) (by omega))
    · refine lv_tableIn (off := 313) (tgt := 352) hx hb d_La_law_39 (by omega) (by omega) (by rw [h10]; rfl) (by decide) ?_
      obtain ⟨rw, rm, v, k, τ, ν, fk, g1, g2, g3, g4, g5, g6, g7⟩ := e4 σ μ hr (xs (4 * j + 1)) (xs (4 * j + 2)) D cI cL cZ cJ ad am o fj
      exact lb_cut F hK hZ hX hbl hA hL hj ⟨by omega, by omega, hR3, hR4⟩ g1 g2 g3 g4 g5 g6 hP hD hS hl (fun H locs ls hP hD hS hl => tail τ ν fk H locs ls _ _ g7 hP hD hS hl (by omega) (by omega))
    · refine lv_tableIn (off := 381) (tgt := 420) hx hb d_La_law_39 (by omega) (by omega) (by rw [h10]; rfl) (by decide) ?_
      obtain ⟨rw, rm, v, k, τ, ν, fk, g1, g2, g3, g4, g5, g6, g7⟩ := e5 σ μ hr (xs (4 * j + 1)) D cI cL cZ cJ ad am o fj
      exact lb_run F hK hZ hX hbl hA hL hj ⟨by omega, by omega, hR3, hR4⟩ g1 g2 g3 g4 g5 g6 hP hD hS hl (fun H locs ls hP hD hS hl => tail τ ν fk H locs ls _ _ g7 hP hD hS hl (by omega) (by omega))
    · refine lv_tableIn (off := 437) (tgt := 476) hx hb d_La_law_39 (by omega) (by omega) (by rw [h10]; rfl) (by decide) ?_
      obtain ⟨rw, rm, v, k, τ, ν, fk, g1, g2, g3, g4, g5, g6, g7⟩ := e6 σ μ hr (xs (4 * j + 1)) D cI cL cZ cJ ad am o fj
      exact lb_told F hK hZ hX hbl hA hL hj ⟨by omega, by omega, hR3, hR4⟩ g1 g2 g3 g4 g5 g6 hP hD hS hl (fun H locs ls hP hD hS hl => tail τ ν fk H locs ls _ _ g7 hP hD hS hl (by omega) (by omega))
    · refine lv_tableIn (off := 493) (tgt := 532) hx hb d_La_law_39 (by omega) (by omega) (by rw [h10]; rfl) (by decide) ?_
      obtain ⟨rw, rm, v, k, τ, ν, fk, g1, g2, g3, g4, g5, g6, g7⟩ := e7 σ μ hr (xs (4 * j + 1)) D cI cL cZ cJ ad am o fj
      exact lb_value F hK hZ hX hbl hA hL hj ⟨by omega, by omega, hR3, hR4⟩ g1 g2 g3 g4 g5 g6 hP hD hS hl (fun H locs ls hP hD hS hl => tail τ ν fk H locs ls _ _ g7 hP hD hS hl (by omega) (by omega))
    · refine lv_tableIn (off := 549) (tgt := 588) hx hb d_La_law_39 (by omega) (by omega) (by rw [h10]; rfl) (by decide) ?_
      obtain ⟨rw, rm, k, τ, ν, g1, g2, g3, g4, g5, g7⟩ := e8 σ μ hr (xs (4 * j + 1)) (xs (4 * j + 2)) D cI cL cZ cJ ad am o fj
      exact lb_multiplier F hK hZ hX hbl hA hL hj ⟨by omega, by omega, hR3, hR4⟩ g1 g2 g3 g4 g5 hP hD hS hl (fun H locs ls hP hD hS hl => tail τ ν fj H locs ls _ _ g7 hP hD hS hl (by omega) (by omega))
    · refine lv_tableIn (off := 597) (tgt := 636) hx hb d_La_law_39 (by omega) (by omega) (by rw [h10]; rfl) (by decide) ?_
      obtain ⟨rw, rm, v, ν, g1, g2, g3, g4, g7⟩ := e9 σ μ hr D cI cL cZ cJ ad am o fj
      exact lb_certificate F hK hZ hX hbl hA hL hj ⟨by omega, by omega, hR3, hR4⟩ g1 g2 g3 g4 hP hD hS hl (fun H locs ls hP hD hS hl => tail σ ν fj H locs ls _ _ g7 hP hD hS hl (by omega) (by omega))
    · refine lv_tableIn (off := 611) (tgt := 650) hx hb d_La_law_39 (by omega) (by omega) (by rw [h10]; rfl) (by decide) ?_
      obtain ⟨rw, rm, v, ν, g1, g2, g3, g4, g7⟩ := e10 σ μ hr D cI cL cZ cJ ad am o fj
      exact lb_contradiction F hK hZ hX hbl hA hL hj ⟨by omega, by omega, hR3, hR4⟩ g1 g2 g3 g4 hP hD hS hl (fun H locs ls hP hD hS hl => tail σ ν fj H locs ls _ _ g7 hP hD hS hl (by omega) (by omega))
    · refine lv_tableIn (off := 624) (tgt := 663) hx hb d_La_law_39 (by omega) (by omega) (by rw [h10]; rfl) (by decide) ?_
      obtain ⟨rw, rm, v, ν, g1, g2, g3, g4, g7⟩ := e11 σ μ hr (xs (4 * j + 1)) D cI cL cZ cJ ad am o fj
      exact lb_check F hK hZ hX hbl hA hL hj ⟨by omega, by omega, hR3, hR4⟩ g1 g2 g3 g4 hP hD hS hl (fun H locs ls hP hD hS hl => tail σ ν fj H locs ls _ _ g7 hP hD hS hl (by omega) (by omega))
    · refine lv_tableIn (off := 649) (tgt := 688) hx hb d_La_law_39 (by omega) (by omega) (by rw [h10]; rfl) (by decide) ?_
      obtain ⟨rw, rm, v, k, τ, ν, fk, g1, g2, g3, g4, g5, g6, g7⟩ := e12 σ μ hr (xs (4 * j + 1)) (xs (4 * j + 2)) D cI cL cZ cJ ad am o fj
      exact lb_follow F hK hZ hX hbl hA hL hj ⟨by omega, by omega, hR3, hR4⟩ g1 g2 g3 g4 g5 g6 hP hD hS hl (fun H locs ls hP hD hS hl => tail τ ν fk H locs ls _ _ g7 hP hD hS hl (by omega) (by omega))
    · refine lv_tableIn (off := 717) (tgt := 756) hx hb d_La_law_39 (by omega) (by omega) (by rw [h10]; rfl) (by decide) ?_
      obtain ⟨rw, rm, v, k, τ, ν, fk, g1, g2, g3, g4, g5, g6, g7⟩ := e13 σ μ hr (xs (4 * j + 1)) D cI cL cZ cJ ad am o fj
      exact lb_chain F hK hZ hX hbl hA hL hj ⟨by omega, by omega, hR3, hR4⟩ g1 g2 g3 g4 g5 g6 hP hD hS hl (fun H locs ls hP hD hS hl => tail τ ν fk H locs ls _ _ g7 hP hD hS hl (by omega) (by omega))
end
