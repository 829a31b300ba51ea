/-! OWN KIT: constructors. The world behind is f g: g k the address of the k-th new cell. -/
section OCTOR
variable {p : Program} {l : Launch} {e : Env} {R : Room} {s : State} {m : MethodId} {args : Array Value} {below : List Frame} {meth : Method} {c : Code} {H : Heap} {locs : List Loc} {cells slots : Nat} {Q : State → Prop}
variable {cc : ByteArray} {pc nL : Nat} {ls : Array Slot} {rest st0 : List Value} {D : va_G} {cl : List vw_C} {A : Nat → Prop} {tys : List (ClassId × FieldType)} {ws ws' wr wc w1 : va_W} {H0 H1 : Heap} {Ts : List Cond} {own : String} {cw : Cond}
def ck_Z (U : State) : Prop := va_Nw (.methodLinkNest ROB 9 y_Co_init ROB) U ∧ va_Nw (.methodLinkNest RLs 27 y_Li_init ROB) U ∧ va_Nw (.methodLinkNest ROB 34 y_Fo_init ROB) U ∧ va_AO "OrderBounds$Line" U
theorem ck_Z.to {s U : State} (hW : s.WarmedH U.vm) (h : ck_Z s) : ck_Z U := ⟨va_Nw.warmM hW h.1, va_Nw.warmM hW h.2.1, va_Nw.warmM hW h.2.2.1, va_AO.moved hW.alike h.2.2.2⟩
theorem ck_Z.same {s U : State} (hv : U.vm = s.vm) (h : ck_Z s) : ck_Z U := h.to (by rw [hv]; exact State.WarmedH.refl s)
def ok_pI (D : va_G) (cl : List vw_C) (tys : List (ClassId × FieldType)) (ws : va_W) (sz : Nat) (av : List Value) : Array Value → State → Prop := va_Pc av (fun U => U.heap.size = sz ∧ va_P D cl ws U.heap ∧ va_K D cl tys U ∧ va_D (fun _ => True) ws ∧ ck_Z U)
def ok_qI (D : va_G) (cl : List vw_C) (A : Nat → Prop) (f : (Nat → Nat) → va_W) : Array Value → State → Outcome → State → Prop := fun _ st o t => o = .returned none ∧ ∃ g : Nat → Nat, va_P D cl (f g) t.heap ∧ va_D A (f g) ∧ va_F A st t
def ok_MI (l : Launch) (y : MethodName) (wt : List Cond) (rm : Room) (D : va_G) (cl : List vw_C) (tys : List (ClassId × FieldType)) (ws : va_W) (f : (Nat → Nat) → va_W) (av : List Value) : Prop :=
  ∀ sz : Nat, Met l y wt rm (ok_pI D cl tys ws sz av) (ok_qI D cl (va_A ws sz) f) rm.cells rm.slots (va_A ws sz)
theorem ok_blI {av : List Value} {sz : Nat} : FrameBlind (ok_pI D cl tys ws sz av) := fun a U g mk h => ⟨h.1, h.2.1, h.2.2.1, va_K.moved (u := U) (U := U.calling g mk a) (Vm.Alike.refl U.vm) h.2.2.2.1, h.2.2.2.2.1, h.2.2.2.2.2.same rfl⟩
theorem ok_startI {y : MethodName} {wt wt' : List Cond} {rm : Room} {av : List Value} {f : (Nat → Nat) → va_W} {maxL : Nat} {ret : Option FieldType} (hy : plainName y.cls = true) (hw : wt = Cond.code y cc maxL ret :: wt') (ho : y.cls = own) (hn : (lg_sl av).length ≤ maxL)
    (k : ∀ (p : Program) (e : Env) (s : State) (m : MethodId) (below : List Frame) (meth : Method) (c : Code) (A : Nat → Prop), CallFix p m c cc maxL s av.toArray wt own → meth.sig.returnType = ret → meth.locks = false → meth.name = y.name → ck_Z s → (∀ q : Nat, s.heap.size ≤ q → A q) → va_P D cl ws s.heap → va_K D cl tys s → va_D A ws → va_S A s.heap s.heap [] →
      ∀ ls : Array Slot, lv_has ls maxL (lv_args 0 av) → W p l e rm s m av.toArray below meth c s.heap [] 0 0 (MQ below (ok_qI D cl A f) av.toArray s rm.cells rm.slots A) (F0 m 0 ls [])) : ok_MI l y wt rm D cl tys ws f av := by
  intro sz
  refine Met.ofW (cc := cc) (maxL := maxL) (ret := ret) hy hw ?_
  intro p e s m args below meth c s₁ B hml hv
  obtain ⟨rfl, hsz, hP, hK, hD, hZ⟩ := hv
  subst hsz
  have hts := atoms_spec (ws := wt) B.pre
  have hown : s.vm.findClass y.cls = some m.cls := findClass_of_methodNamed B.named
  rw [ho] at hown
  rw [lg_entry_eq]
  exact k p e s m below meth c _ ⟨B.exec, B.bytes, hml, hown, hts⟩ B.returns B.notSynchronized (name_of_methodNamed B.named B.method).1 hZ (fun q h => Or.inr h) hP hK hD.self va_S.rf _ (lv_entry av hn)
theorem ok_vretI {f : (Nat → Nat) → va_W} {g : Nat → Nat} (F : CallFix p m c cc nL s args Ts own) (hr : meth.sig.returnType = none) (hlk : meth.locks = false) (hP : va_P D cl (f g) H) (hD : va_D A (f g)) (hS : va_S A s.heap H locs) (hdg : decode cc pc = .ok (.return_, 1)) : W p l e R s m args below meth c H locs cells slots (MQ below (ok_qI D cl A f) args s cells slots A) (F0 m pc ls []) :=
  W.vret F.1 F.2.1 hr (fun t ht _ => ⟨rfl, g, by rw [ht]; exact hP, hD, hS.F ht⟩) hS.2.2 hdg hlk
theorem ok_left {a b : va_W} (h : va_P D cl (a ++ b) H) : va_P D cl a H := fun k q hk => h k q (by rw [List.getElem?_append_left (List.getElem?_eq_some_iff.mp hk).1]; exact hk)
theorem ok_right {a b : va_W} (h : va_P D cl (a ++ b) H) : va_P D cl b H := fun k q hk => h (a.length + k) q (by rw [List.getElem?_append_right (Nat.le_add_right _ _), Nat.add_sub_cancel_left]; exact hk)
theorem ok_leftD {a b : va_W} (h : va_D A (a ++ b)) : va_D A a := ⟨fun i j x y hx hy e => h.1 i j x y (by rw [List.getElem?_append_left (List.getElem?_eq_some_iff.mp hx).1]; exact hx) (by rw [List.getElem?_append_left (List.getElem?_eq_some_iff.mp hy).1]; exact hy) e, fun k q hk => h.2 k q (by rw [List.getElem?_append_left (List.getElem?_eq_some_iff.mp hk).1]; exact hk)⟩
theorem ok_rightD {a b : va_W} (h : va_D A (a ++ b)) : va_D A b := ⟨fun i j x y hx hy e => Nat.add_left_cancel (h.1 (a.length + i) (a.length + j) x y (by rw [List.getElem?_append_right (Nat.le_add_right _ _), Nat.add_sub_cancel_left]; exact hx) (by rw [List.getElem?_append_right (Nat.le_add_right _ _), Nat.add_sub_cancel_left]; exact hy) e), fun k q hk => h.2 (a.length + k) q (by rw [List.getElem?_append_right (Nat.le_add_right _ _), Nat.add_sub_cancel_left]; exact hk)⟩
theorem ok_apD {a b : va_W} (h : va_D A (a ++ b)) {i j : Nat} {x y : Nat × va_E} (hx : a[i]? = some x) (hy : b[j]? = some y) : x.1 ≠ y.1 := fun e => by
  have hi := (List.getElem?_eq_some_iff.mp hx).1
  have := h.1 i (a.length + j) x y (by rw [List.getElem?_append_left hi]; exact hx) (by rw [List.getElem?_append_right (Nat.le_add_right _ _), Nat.add_sub_cancel_left]; exact hy) e
  omega
theorem ok_swapP {a b : va_W} (h : va_P D cl (a ++ b) H) : va_P D cl (b ++ a) H := (ok_right h).app (ok_left h)
theorem ok_swapD {a b : va_W} (h : va_D A (a ++ b)) : va_D A (b ++ a) := (ok_rightD h).app (ok_leftD h) (fun _ _ _ _ hx hy e => ok_apD h hy hx e.symm)
/-- the frame rule -/
theorem ok_join (hP : va_P D cl (wr ++ wc) H) (hD : va_D A (wr ++ wc)) (hk : ∀ q : Nat, q < H.size → ¬ va_A wc H.size q → H1[q]? = H[q]?) (hF : ∀ q, va_A wc H.size q → A q) (hP1 : va_P D cl w1 H1) (hD1 : va_D (va_A wc H.size) w1) : va_P D cl (wr ++ w1) H1 ∧ va_D A (wr ++ w1) := by
  have ap : ∀ (k : Nat) (q : Nat × va_E), wr[k]? = some q → q.1 < H.size ∧ ¬ va_A wc H.size q.1 := by
    intro k q hq
    have hl := (ok_left hP k q hq).lt
    refine ⟨hl, fun h => ?_⟩
    rcases h with ⟨k2, e, h⟩ | h
    · exact ok_apD hD hq h rfl
    · omega
  exact ⟨va_P.app (fun k q hq => (ok_left hP k q hq).kept (hk q.1 (ap k q hq).1 (ap k q hq).2)) hP1, va_D.app (ok_leftD hD) (hD1.weaken (fun k q _ h => hF q.1 h)) (fun i j x y hx hy hxy => (ap i x hx).2 (by rw [hxy]; exact hD1.2 j y hy))⟩
theorem ok_freeF (hD : va_D A (wr ++ wc)) (hS : va_S A H0 H locs) (hA : ∀ q, H0.size ≤ q → A q) : ∀ q, va_A wc H.size q → A q := by
  intro q hq
  rcases hq with ⟨k, e, hk⟩ | hq
  · exact (ok_rightD hD).2 k _ hk
  · exact hA q (Nat.le_trans hS.1 hq)
/-- behind a constructor -/
theorem ok_callI {f : (Nat → Nat) → va_W} {mc ms : Nat} {a : Array Value} (hr : va_Run p l e R s m args below meth c H locs cells slots mc ms (F0 m pc ls st0) rest (ok_qI D cl (va_A wc H.size) f a) (va_A wc H.size)) (hP : va_P D cl (wr ++ wc) H) (hD : va_D A (wr ++ wc)) (hS : va_S A H0 H locs) (hA : ∀ q, H0.size ≤ q → A q)
    (kk : ∀ (g : Nat → Nat) (H1 : Heap) (locs1 : List Loc), va_P D cl (wr ++ f g) H1 → va_D A (wr ++ f g) → va_S A H0 H1 locs1 → W p l e R s m args below meth c H1 locs1 (cells + mc) (slots + ms) Q (F0 m (pc + 3) ls rest)) : W p l e R s m args below meth c H locs cells slots Q (F0 m pc ls st0) := by
  have hfr := ok_freeF hD hS hA
  intro T hT X
  obtain ⟨v', st₀, t, T', L, h0, X', hL, e1, -, ⟨hv, g, hP1, hD1, hz, hk⟩, st⟩ := hr T hT X
  cases hv
  rw [h0] at hz hk
  rw [← e1] at hP1 hz hk
  obtain ⟨hP2, hD2⟩ := ok_join hP hD hk hfr hP1 hD1
  obtain ⟨t2, a1, b1⟩ := kk g T'.heap (locs ++ L) hP2 hD2
    ⟨Nat.le_trans hS.1 hz, fun q h1 h2 => by rw [hk q (Nat.lt_of_lt_of_le h1 hS.1) (fun z => h2 (hfr q z))]; exact hS.2.1 q h1 h2, fun q hq => by
      rcases List.mem_append.mp hq with h | h
      · exact hS.2.2 q h
      · exact hfr _ (hL q h)⟩ T' rfl X'
  exact ⟨t2, st t2 a1, b1⟩
/-- behind an M method whose world is a part -/
theorem ok_callMF {v : Option Value} {mc ms : Nat} {a : Array Value} (hr : va_Run p l e R s m args below meth c H locs cells slots mc ms (F0 m pc ls st0) rest (ok_qA D cl (va_A wc H.size) w1 v a) (va_A wc H.size)) (hP : va_P D cl (wr ++ wc) H) (hD : va_D A (wr ++ wc)) (hS : va_S A H0 H locs) (hA : ∀ q, H0.size ≤ q → A q)
    (kk : ∀ (H1 : Heap) (locs1 : List Loc), va_P D cl (wr ++ w1) H1 → va_D A (wr ++ w1) → va_S A H0 H1 locs1 → W p l e R s m args below meth c H1 locs1 (cells + mc) (slots + ms) Q (F0 m (pc + 3) ls (v.toList ++ rest))) : W p l e R s m args below meth c H locs cells slots Q (F0 m pc ls st0) := by
  have hfr := ok_freeF hD hS hA
  intro T hT X
  obtain ⟨v', st₀, t, T', L, h0, X', hL, e1, -, ⟨hv, hP1, hD1, hz, hk⟩, st⟩ := hr T hT X
  cases hv
  rw [h0] at hz hk
  rw [← e1] at hP1 hz hk
  obtain ⟨hP2, hD2⟩ := ok_join hP hD hk hfr hP1 hD1
  obtain ⟨t2, a1, b1⟩ := kk T'.heap (locs ++ L) hP2 hD2
    ⟨Nat.le_trans hS.1 hz, fun q h1 h2 => by rw [hk q (Nat.lt_of_lt_of_le h1 hS.1) (fun z => h2 (hfr q z))]; exact hS.2.1 q h1 h2, fun q hq => by
      rcases List.mem_append.mp hq with h | h
      · exact hS.2.2 q h
      · exact hfr _ (hL q h)⟩ T' rfl X'
  exact ⟨t2, st t2 a1, b1⟩
variable {y : MethodName} {bytes : ByteArray} {maxL index : Nat} {wt wt' : List Cond} {rm : Room} {b : Nat} {As : List Value} {f : (Nat → Nat) → va_W} {tys' : List (ClassId × FieldType)}
/-- invokespecial of a constructor -/
theorem ok_I (F : CallFix p m c cc nL s args (cw :: tt) own) (hM : ok_MI l y wt rm D cl tys' wc f (.ref b :: As)) (n : Nat) (hG : GoodIn (cw :: tt) wt) (hw : wt = Cond.code y bytes maxL none :: wt') (hini : Cond.initialized y.cls ∈ tt) (hl : Cond.methodLink own index y ∈ tt) (hin : Cond.instanceMethod y ∈ tt) (hy1 : y.name = "<init>")
    (hd : y.cls ≠ "java/lang/invoke/MethodHandle" ∧ y.cls ≠ "java/lang/invoke/VarHandle" ∧ (parseMethodDescriptor y.desc).map (fun d => d.parameters.length) = some n) (hR : rm.frames + 1 ≤ R.frames ∧ 8 + (maxL + 11) + rm.locals ≤ R.locals)
    (hK : va_K D cl tys' s) (hZ : ck_Z s) (hP : va_P D cl (wr ++ wc) H) (hD : va_D A (wr ++ wc)) (hS : va_S A H0 H locs) (hA : ∀ q, H0.size ≤ q → A q) (hn : As.length = n) (hsz : ls.size = nL) (hst : st0 = As.reverse ++ .ref b :: rest) (hW : (rest.map fun v => v.category).sum ≤ 8) (hcs : cells + rm.cells ≤ R.cells ∧ slots + rm.slots ≤ R.slots) (hdg : decode cc pc = .ok (.invokespecial index, 3))
    (kk : ∀ (g : Nat → Nat) (H1 : Heap) (locs1 : List Loc), va_P D cl (wr ++ f g) H1 → va_D A (wr ++ f g) → va_S A H0 H1 locs1 → W p l e R s m args below meth c H1 locs1 (cells + rm.cells) (slots + rm.slots) Q (F0 m (pc + 3) ls rest)) : W p l e R s m args below meth c H locs cells slots Q (F0 m pc ls st0) := by
  subst hst
  exact ok_callI (va_runI (As := As) (rest := rest) F (hM H.size) (cwI n F.2.2.2.2 hG hw rfl rfl (F.2.2.2.2 _ (List.mem_cons_of_mem _ hini)) (F.2.2.2.2 _ (List.mem_cons_of_mem _ hl)) (F.2.2.2.2 _ (List.mem_cons_of_mem _ hin)) hy1 hd hR) ⟨ok_blI, fun U hU hW9 => ⟨rfl, by rw [hU], by rw [hU]; exact ok_right hP, va_K.moved hW9.alike hK, (ok_rightD hD).weaken (fun _ _ _ _ => trivial), hZ.to hW9⟩⟩ rfl hn hsz rfl (lv_room hW) hdg hcs) hP hD hS hA kk
/-- invokespecial of a nest mate's private constructor -/
theorem ok_IN {host : String} (F : CallFix p m c cc nL s args (cw :: tt) own) (hM : ok_MI l y wt rm D cl tys' wc f (.ref b :: As)) (n : Nat) (hG : GoodIn (cw :: tt) wt) (hw : wt = Cond.code y bytes maxL none :: wt') (hini : Cond.initialized y.cls ∈ tt) (hl : va_Nw (.methodLinkNest own index y host) s) (hin : Cond.instanceMethod y ∈ tt) (hy1 : y.name = "<init>")
    (hd : y.cls ≠ "java/lang/invoke/MethodHandle" ∧ y.cls ≠ "java/lang/invoke/VarHandle" ∧ (parseMethodDescriptor y.desc).map (fun d => d.parameters.length) = some n) (hR : rm.frames + 1 ≤ R.frames ∧ 8 + (maxL + 11) + rm.locals ≤ R.locals)
    (hK : va_K D cl tys' s) (hZ : ck_Z s) (hP : va_P D cl (wr ++ wc) H) (hD : va_D A (wr ++ wc)) (hS : va_S A H0 H locs) (hA : ∀ q, H0.size ≤ q → A q) (hn : As.length = n) (hsz : ls.size = nL) (hst : st0 = As.reverse ++ .ref b :: rest) (hW : (rest.map fun v => v.category).sum ≤ 8) (hcs : cells + rm.cells ≤ R.cells ∧ slots + rm.slots ≤ R.slots) (hdg : decode cc pc = .ok (.invokespecial index, 3))
    (kk : ∀ (g : Nat → Nat) (H1 : Heap) (locs1 : List Loc), va_P D cl (wr ++ f g) H1 → va_D A (wr ++ f g) → va_S A H0 H1 locs1 → W p l e R s m args below meth c H1 locs1 (cells + rm.cells) (slots + rm.slots) Q (F0 m (pc + 3) ls rest)) : W p l e R s m args below meth c H locs cells slots Q (F0 m pc ls st0) := by
  subst hst
  exact ok_callI (va_runIN (As := As) (rest := rest) F (hM H.size) ⟨va_cnB n F.2.2.2.2 hG hw rfl rfl hl (F.2.2.2.2 _ (List.mem_cons_of_mem _ hini)) hd hR, hy1, F.2.2.2.2 _ (List.mem_cons_of_mem _ hin)⟩ ⟨ok_blI, fun U hU hW9 => ⟨rfl, by rw [hU], by rw [hU]; exact ok_right hP, va_K.moved hW9.alike hK, (ok_rightD hD).weaken (fun _ _ _ _ => trivial), hZ.to hW9⟩⟩ rfl hn hsz rfl (lv_room hW) hdg hcs) hP hD hS hA kk
/-- newarray, the array's class known -/
theorem ok_newa {atype : ArrayType} {ty : FieldType} {cA : ClassId} (t0 : Nat) (F : CallFix p m c cc nL s args (cw :: tt) own) (harr : Cond.arrayClass (newarray.typeOf atype) ∈ tt) (hty : newarray.typeOf atype = ty) (hK : va_K D cl tys s) (ht : tys[t0]? = some (cA, ty)) (hP : va_P D cl ws H) (hD : va_D A ws) (hS : va_S A H0 H locs) (hA : ∀ q, H0.size ≤ q → A q)
    {n : Int32} {N' : Nat} {a0 : vp_A} (ha : ∀ cA : ClassId, vp_cell cA a0 = arrV cA N' (fun _ => defaultValue ty)) (hn : ¬ n < 0) (hN : n.toNatClampNeg = N') (hbytes : N' * componentBytes ty ≤ 536870912) (hcells : cells + 1 ≤ R.cells) (hslots : slots + N' ≤ R.slots) (hdg : decode cc pc = .ok (.newarray atype, 2))
    (kk : ∀ (q : Nat) (H1 : Heap), va_P D cl (ws ++ [(q, .inl (cA, a0))]) H1 → va_D A (ws ++ [(q, .inl (cA, a0))]) → va_S A H0 H1 locs → W p l e R s m args below meth c H1 locs (cells + 1) (slots + N') Q (F0 m (pc + 2) ls (.ref q :: rest))) : W p l e R s m args below meth c H locs cells slots Q (F0 m pc ls (.int n :: rest)) := by
  refine va_newa F.1 F.2.1 (F.2.2.2.2 _ (List.mem_cons_of_mem _ harr)) hty hK hP hD hS hA ha hn hN hbytes hcells hslots hdg (fun q cB H1 hK1 hP1 hD1 hS1 => ?_)
  have e : cB = cA := by
    have h1 := (hK1.2 tys.length (cB, ty) (by rw [List.getElem?_append_right (Nat.le_refl _), Nat.sub_self]; rfl)).2
    have h2 := (hK.2 t0 _ ht).2
    subst hty
    cases atype <;> exact Option.some.inj (h1.symm.trans h2)
  subst e
  exact kk q H1 hP1 hD1 hS1
theorem ok_newq {C : String} {cA : ClassId} (t0 : Nat) (F : CallFix p m c cc nL s args (cw :: tt) own) (hcl : Cond.classLink own index C ∈ tt) (hover : va_AO C s) (hK : va_K D cl tys s) (ht : tys[t0]? = some (cA, .object C)) (hP : va_P D cl ws H) (hD : va_D A ws) (hS : va_S A H0 H locs) (hA : ∀ q, H0.size ≤ q → A q)
    {n : Int32} {N' : Nat} (hn : ¬ n < 0) (hN : n.toNatClampNeg = N') (hbytes : N' * 4 ≤ 536870912) (hcells : cells + 1 ≤ R.cells) (hslots : slots + N' ≤ R.slots) (hdg : decode cc pc = .ok (.anewarray index, 3))
    (kk : ∀ (q : Nat) (H1 : Heap), va_P D cl (ws ++ [(q, .inl (cA, N', .inr (.inr (.inr (.inr (fun _ => none))))))]) H1 → va_D A (ws ++ [(q, .inl (cA, N', .inr (.inr (.inr (.inr (fun _ => none))))))]) → va_S A H0 H1 locs → W p l e R s m args below meth c H1 locs (cells + 1) (slots + N') Q (F0 m (pc + 3) ls (.ref q :: rest))) : W p l e R s m args below meth c H locs cells slots Q (F0 m pc ls (.int n :: rest)) := by
  refine va_newq F.1 F.2.1 F.2.2.2.1 (F.2.2.2.2 _ (List.mem_cons_of_mem _ hcl)) hover hK hP hD hS hA hn hN hbytes hcells hslots hdg (fun q cB H1 hK1 hP1 hD1 hS1 => ?_)
  have e : cB = cA := by
    obtain ⟨k1, c1, a1, a2, a3, a4⟩ := (hK1.2 tys.length (cB, .object C) (by rw [List.getElem?_append_right (Nat.le_refl _), Nat.sub_self]; rfl)).2
    obtain ⟨k2, c2, b1, b2, b3, b4⟩ := (hK.2 t0 _ ht).2
    exact Option.some.inj (a4.symm.trans b4)
  subst e
  exact kk q H1 hP1 hD1 hS1
theorem ok_new {C : String} {T : u_T} {N ci : Nat} (F : CallFix p m c cc nL s args (cw :: tt) own) (hin : ∀ w ∈ u_ws C T N, w ∈ tt) (ty : Nat → FieldType) (hty : ∀ k, k < N → parseFieldDescriptor (T k).2.2.1 = some (ty k)) (hcl : Cond.classLink own index C ∈ tt) (hinst : Cond.instantiable C N ∈ tt) (hini : Cond.initialized C ∈ tt)
    (hK : va_K D cl tys s) (hP : va_P D cl ws H) (hD : va_D A ws) (hS : va_S A H0 H locs) (hA : ∀ q, H0.size ≤ q → A q) (hc : cl[ci]? = some (C, T, N)) {fs : List Value} (hfs : ∀ j, j < N → defaultValue (ty j) = vp_V fs j) (hcells : cells + 1 ≤ R.cells) (hslots : slots + N ≤ R.slots) (hdg : decode cc pc = .ok (.new index, 3))
    (kk : ∀ (q : Nat) (H1 : Heap), va_P D cl (ws ++ [(q, .inr (ci, fs))]) H1 → va_D A (ws ++ [(q, .inr (ci, fs))]) → va_S A H0 H1 locs → W p l e R s m args below meth c H1 locs (cells + 1) (slots + N) Q (F0 m (pc + 3) ls (.ref q :: rest))) : W p l e R s m args below meth c H locs cells slots Q (F0 m pc ls rest) :=
  va_new F.1 F.2.1 F.2.2.2.2 (fun w h => List.mem_cons_of_mem _ (hin w h)) ty hty F.2.2.2.1 (F.2.2.2.2 _ (List.mem_cons_of_mem _ hcl)) (F.2.2.2.2 _ (List.mem_cons_of_mem _ hinst)) (F.2.2.2.2 _ (List.mem_cons_of_mem _ hini)) hK hP hD hS hA hc hfs hcells hslots hdg kk
theorem ok_putF {C : String} {T : u_T} {N ci a : Nat} (F : CallFix p m c cc nL s args (cw :: tt) C) (hin : ∀ w ∈ u_ws C T N, w ∈ tt) (ty0 : Nat → FieldType) (hty : ∀ k, k < N → parseFieldDescriptor (T k).2.2.1 = some (ty0 k)) (hnm : ∀ a, a < N → ∀ b, b < N → a ≠ b → (T a).2.1 ≠ (T b).2.1) (hK : va_K D cl tys s) (hP : va_P D cl ws H) (hD : va_D A ws) (hS0 : va_S A H0 H locs) (q0 : Nat) {fs : List Value} (he : ws[q0]? = some (a, .inr (ci, fs))) (hc : cl[ci]? = some (C, T, N)) (k : Nat) (hk : k < N) (hlink : Cond.fieldLink C index (T k).1 (T k).2.1 (T k).2.2.1 ∈ tt) (hfin : (T k).2.2.2 = true) (hin2 : meth.name = "<init>") (hdecl : (T k).1 = C) {v : Value} (hn : narrow (ty0 k) v = v) (hfit : fits (ty0 k) v = true) (hl : k < fs.length)
    (hdg : decode cc pc = .ok (.putfield index, 3)) (kk : ∀ (H1 : Heap) (locs1 : List Loc), va_P D cl (ws.set q0 (a, .inr (ci, fs.set k v))) H1 → va_D A (ws.set q0 (a, .inr (ci, fs.set k v))) → va_S A H0 H1 locs1 → W p l e R s m args below meth c H1 locs1 cells slots Q (F0 m (pc + 3) ls rest)) : W p l e R s m args below meth c H locs cells slots Q (F0 m pc ls (v :: .ref a :: rest)) :=
  va_putF F.1 F.2.1 F.2.2.2.2 (fun w h => List.mem_cons_of_mem _ (hin w h)) ty0 hty hnm F.2.2.2.1 hK hP hD hS0 q0 he hc k hk (F.2.2.2.2 _ (List.mem_cons_of_mem _ hlink)) (fun _ h => h) hfin hin2 hdecl (hty k hk) hn hfit hl hdg kk
theorem ok_putC {C : String} {T : u_T} {N ci a : Nat} (F : CallFix p m c cc nL s args (cw :: tt) C) (hin : ∀ w ∈ u_ws C T N, w ∈ tt) (ty0 : Nat → FieldType) (hty : ∀ k, k < N → parseFieldDescriptor (T k).2.2.1 = some (ty0 k)) (hnm : ∀ a, a < N → ∀ b, b < N → a ≠ b → (T a).2.1 ≠ (T b).2.1) (hK : va_K D cl tys s) (hP : va_P D cl ws H) (hD : va_D A ws) (hS0 : va_S A H0 H locs) (q0 : Nat) {fs : List Value} (he : ws[q0]? = some (a, .inr (ci, fs))) (hc : cl[ci]? = some (C, T, N)) (k : Nat) (hk : k < N) (hlink : Cond.fieldLink C index (T k).1 (T k).2.1 (T k).2.2.1 ∈ tt) (hfin : (T k).2.2.2 = false) {v : Value} (hn : narrow (ty0 k) v = v) (hfit : fits (ty0 k) v = true) (hl : k < fs.length)
    (hdg : decode cc pc = .ok (.putfield index, 3)) (kk : ∀ (H1 : Heap) (locs1 : List Loc), va_P D cl (ws.set q0 (a, .inr (ci, fs.set k v))) H1 → va_D A (ws.set q0 (a, .inr (ci, fs.set k v))) → va_S A H0 H1 locs1 → W p l e R s m args below meth c H1 locs1 cells slots Q (F0 m (pc + 3) ls rest)) : W p l e R s m args below meth c H locs cells slots Q (F0 m pc ls (v :: .ref a :: rest)) :=
  va_put F.1 F.2.1 F.2.2.2.2 (fun w h => List.mem_cons_of_mem _ (hin w h)) ty0 hty hnm F.2.2.2.1 hK hP hD hS0 q0 he hc k hk (F.2.2.2.2 _ (List.mem_cons_of_mem _ hlink)) (fun _ h => h) hfin (hty k hk) hn hfit hl hdg kk
theorem ok_obj (F : CallFix p m c cc nL s args (cw :: tt) own) (hlink : Cond.methodLink own index objectInit ∈ tt) (hsz : ls.size = nL) {a : Nat} (hd : decode cc pc = .ok (.invokespecial index, 3)) (hframes : 1 ≤ R.frames) (hlocals : (rest.map fun v => v.category).sum + 12 ≤ R.locals)
    (kk : W p l e R s m args below meth c H locs cells slots Q (F0 m (pc + 3) ls rest)) : W p l e R s m args below meth c H locs cells slots Q (F0 m pc ls (.ref a :: rest)) :=
  W.objInit F.1 F.2.1 F.2.2.2.1 (F.2.2.2.2 _ (List.mem_cons_of_mem _ hlink)) (F.2.2.2.2 _ (List.mem_cons_of_mem _ (tt1 23 rfl rfl))) (F.2.2.2.2 _ (List.mem_cons_of_mem _ (tt1 24 rfl rfl))) (g := F0 m pc ls (.ref a :: rest)) rfl (hsz.trans F.2.2.1.symm) rfl hd hframes (by show 2 * 0 + _ + 12 ≤ _; omega) kk
end OCTOR
