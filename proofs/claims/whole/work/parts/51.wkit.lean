/-! OWN KIT: the law's own static methods (with handlers), and calls of them -/
section OWRAP
variable {p : Program} {l : Launch} {e : Env} {R : Room} {s : State} {m : MethodId} {args : Array Value} {below : List Frame} {meth : Method} {c : Code} {H : Heap} {locs : List Loc} {cells slots : Nat} {Q : State → Prop}
variable {cc : ByteArray} {pc nL : Nat} {ls : Array Slot} {rest st0 : List Value} {D : va_G} {cl : List vw_C} {A : Nat → Prop} {tys : List (ClassId × FieldType)} {ws ws' wr wc w1 : va_W} {H0 H1 : Heap} {Ts : List Cond} {own : String} {cw : Cond}
def ok_pW (D : va_G) (cl : List vw_C) (tys : List (ClassId × FieldType)) (ws : va_W) (sz : Nat) (av : List Value) : Array Value → State → Prop := va_Pc av (fun U => U.heap.size = sz ∧ va_P D cl ws U.heap ∧ va_K D cl tys U ∧ va_D (fun _ => True) ws ∧ th_Z U)
def ok_MW (l : Launch) (y : MethodName) (wt : List Cond) (rm : Room) (D : va_G) (cl : List vw_C) (tys : List (ClassId × FieldType)) (ws ws' : va_W) (av : List Value) (v : Option Value) : Prop :=
  ∀ sz : Nat, Met l y wt rm (ok_pW D cl tys ws sz av) (ok_qA D cl (va_A ws sz) ws' v) 1 6 (va_A ws sz)
theorem ok_blW {av : List Value} {sz : Nat} : FrameBlind (ok_pW D cl tys ws sz av) := fun a U g mk h => ⟨h.1, h.2.1, h.2.2.1, va_K.moved (u := U) (U := U.calling g mk a) (Vm.Alike.refl U.vm) h.2.2.2.1, h.2.2.2.2.1, h.2.2.2.2.2.same rfl rfl⟩
theorem ok_startW {y : MethodName} {wt wt' : List Cond} {rm : Room} {av : List Value} {v : Option Value} {maxL : Nat} {ret : Option FieldType} {hh : List (Nat × Nat × Nat × Nat)} (hy : plainName y.cls = true) (hw : wt = Cond.codeWith y cc maxL ret hh :: wt') (ho : y.cls = own) (hn : (lg_sl av).length ≤ maxL)
    (k : ∀ (p : Program) (e : Env) (s : State) (m : MethodId) (below : List Frame) (meth : Method) (c : Code) (A : Nat → Prop), CallFix p m c cc maxL s av.toArray wt own → meth.sig.returnType = ret → meth.locks = false → c.exceptionTable.toList.map th_q = hh → th_Z s → (∀ q : Nat, s.heap.size ≤ q → A q) → va_P D cl ws s.heap → va_K D cl tys s → va_D A ws → va_S A s.heap s.heap [] →
      ∀ ls : Array Slot, lv_has ls maxL (lv_args 0 av) → W p l e rm s m av.toArray below meth c s.heap [] 0 0 (MQ below (ok_qA D cl A ws' v) av.toArray s 1 6 A) (F0 m 0 ls [])) : ok_MW l y wt rm D cl tys ws ws' av v := by
  intro sz
  refine va_MetW (cc := cc) (maxL := maxL) (ret := ret) (hh := hh) hy hw ?_
  intro p e s m args below meth c s₁ B hml hv
  obtain ⟨rfl, hsz, hP, hK, hD, hZ⟩ := hv
  subst hsz
  have hts := atoms_spec (ws := wt) B.pre
  have hown : s.vm.findClass y.cls = some m.cls := findClass_of_methodNamed B.named
  rw [ho] at hown
  have hh9 : c.exceptionTable.toList.map th_q = hh := by
    obtain ⟨m9, meth9, c9, n9, hm9, hc9, -, -, ht9, -⟩ := Cond.codeWith_spec (hts (Cond.codeWith y cc maxL ret hh) (by rw [hw]; exact List.mem_cons_self))
    cases B.named.symm.trans n9
    cases B.method.symm.trans hm9
    cases (Stand.of_body B).code.symm.trans hc9
    exact ht9
  rw [lg_entry_eq]
  exact k p e s m below meth c _ ⟨B.exec, B.bytes, hml, hown, hts⟩ B.returns B.notSynchronized hh9 hZ (fun q h => Or.inr h) hP hK hD.self va_S.rf _ (lv_entry av hn)
theorem ok_iretW (F : CallFix p m c cc nL s args Ts own) (hr : meth.sig.returnType = some .int) (hlk : meth.locks = false) (hc : cells ≤ 1 ∧ slots ≤ 6) (hP : va_P D cl ws' H) (hD : va_D A ws') (hS : va_S A s.heap H locs) {v r : Int32} (hv : v = r) (hdg : decode cc pc = .ok (.ireturn, 1)) : W p l e R s m args below meth c H locs cells slots (MQ below (ok_qA D cl A ws' (some (.int r))) args s 1 6 A) (F0 m pc ls [.int v]) := by
  subst hv
  exact W.widen hc.1 hc.2 (W.iret F.1 F.2.1 hr (fun t ht _ => ⟨rfl, by rw [ht]; exact hP, hD, hS.F ht⟩) hS.2.2 hdg hlk)
variable {y : MethodName} {bytes : ByteArray} {maxL index : Nat} {ret : Option FieldType} {wt wt' : List Cond} {rm : Room} {C : String} {b : Nat} {As : List Value} {v : Option Value} {tys' : List (ClassId × FieldType)}
/-- invokevirtual of an M method over a part of the world -/
theorem ok_VMF (F : CallFix p m c cc nL s args Ts own) (hM : ok_MM l y wt rm D cl tys' wc w1 (.ref b :: As) v) (n : Nat) (hG : GoodIn Ts (wsV own index C y wt)) (hw : wt = Cond.code y bytes maxL ret :: wt') (hz : rm.cells = 0 ∧ rm.slots = 0)
    (hd : y.cls = C ∧ y.cls ≠ "java/lang/invoke/MethodHandle" ∧ y.cls ≠ "java/lang/invoke/VarHandle" ∧ (parseMethodDescriptor y.desc).map (fun d => d.parameters.length) = some n) (hR : rm.frames + 1 ≤ R.frames ∧ 8 + (maxL + 11) + rm.locals ≤ R.locals)
    (hK : va_K D cl tys' s) (hP : va_P D cl (wr ++ wc) H) (hD : va_D A (wr ++ wc)) (hS : va_S A H0 H locs) (hA : ∀ q, H0.size ≤ q → A q) (q0 ci : Nat) {q : vw_C} {fs : List Value} (hq : cl[ci]? = some q) (hqC : q.1 = C) (he : wc[q0]? = some (b, .inr (ci, fs))) (hn : As.length = n) (hsz : ls.size = nL) (hst : st0 = As.reverse ++ .ref b :: rest) (hW : (rest.map fun v => v.category).sum ≤ 8) (hcs : cells ≤ R.cells ∧ slots ≤ R.slots) (hdg : decode cc pc = .ok (.invokevirtual index, 3))
    (kk : ∀ (H1 : Heap) (locs1 : List Loc), va_P D cl (wr ++ w1) H1 → va_D A (wr ++ w1) → va_S A H0 H1 locs1 → W p l e R s m args below meth c H1 locs1 cells slots Q (F0 m (pc + 3) ls (v.toList ++ rest))) : W p l e R s m args below meth c H locs cells slots Q (F0 m pc ls st0) := by
  subst hst
  exact ok_callMF (va_runV (As := As) (rest := rest) F (hM H.size) (cwV n F.2.2.2.2 hG hw hz.1 hz.2 hd hR) ⟨ok_blM, by rw [← hqC]; exact va_recv hK (ok_right hP) hq he, fun U hU hW9 => ⟨rfl, by rw [hU], by rw [hU]; exact ok_right hP, va_K.moved hW9.alike hK, (ok_rightD hD).weaken (fun _ _ _ _ => trivial)⟩⟩ rfl hn hsz rfl (lv_room hW) hdg ⟨hcs.1, hcs.2⟩) hP hD hS hA kk
/-- invokestatic of one of the law's own methods, over a part of the world -/
theorem ok_SWF {hh : List (Nat × Nat × Nat × Nat)} (F : CallFix p m c cc nL s args (cw :: tt) own) (hM : ok_MW l y wt rm D cl tys' wc w1 As v) (n : Nat) (hG : ∀ w ∈ wt, w ∈ tt) (hw : wt = Cond.codeWith y bytes maxL ret hh :: wt') (hl : Cond.methodLink own index y ∈ tt) (hst : Cond.static y ∈ tt) (hini : Cond.initialized y.cls ∈ tt) (hz : rm.cells = 1 ∧ rm.slots = 6)
    (hd : y.cls ≠ "java/lang/invoke/MethodHandle" ∧ y.cls ≠ "java/lang/invoke/VarHandle" ∧ (parseMethodDescriptor y.desc).map (fun d => d.parameters.length) = some n) (hR : rm.frames + 1 ≤ R.frames ∧ 8 + (maxL + 11) + rm.locals ≤ R.locals)
    (hK : va_K D cl tys' s) (hZ : ∀ U : State, U.heap = H → s.WarmedH U.vm → th_Z U) (hP : va_P D cl (wr ++ wc) H) (hD : va_D A (wr ++ wc)) (hS : va_S A H0 H locs) (hA : ∀ q, H0.size ≤ q → A q) (hn : As.length = n) (hsz : ls.size = nL) (hst0 : st0 = As.reverse ++ rest) (hW : (rest.map fun v => v.category).sum ≤ 8) (hcs : cells + 1 ≤ R.cells ∧ slots + 6 ≤ R.slots) (hdg : decode cc pc = .ok (.invokestatic index, 3))
    (kk : ∀ (H1 : Heap) (locs1 : List Loc), va_P D cl (wr ++ w1) H1 → va_D A (wr ++ w1) → va_S A H0 H1 locs1 → W p l e R s m args below meth c H1 locs1 (cells + 1) (slots + 6) Q (F0 m (pc + 3) ls (v.toList ++ rest))) : W p l e R s m args below meth c H locs cells slots Q (F0 m pc ls st0) := by
  subst hst0
  refine ok_callMF (wc := wc) (v := v) (a := As.toArray) ?_ hP hD hS hA kk
  have hcw : Cond.codeWith y bytes maxL ret hh ∈ wt := by rw [hw]; exact List.mem_cons_self
  have T9 : ∀ w ∈ tt, w.before args s = true := fun w h => F.2.2.2.2 w (List.mem_cons_of_mem _ h)
  have hK9 : Back l R p e below s args y 3 8 (PreOf R 1 6 (ok_pW D cl tys' wc H.size As)) (PostOf (ok_qA D cl (va_A wc H.size) w1 v) 1 6 (va_A wc H.size)) :=
    va_backW (hh := hh) (bytes := bytes) (maxL := maxL) (ret := ret) (hM H.size) ok_blW hz.1 hz.2 hR.1 hR.2 (fun w hw9 a' U hW9 => word_at hW9 (tt_good (hG w hw9)) (T9 w (hG w hw9))) hcw (fun a' U hW9 => word_at hW9 (tt_good hini) (T9 _ hini))
  intro T hT X
  obtain ⟨mk, methM, cM, hnamed, hmethM, -, -, -, -, -, -, hsigM⟩ := Cond.codeWith_spec (T9 _ (hG _ hcw))
  obtain ⟨v', vm₁, ⟨U', l2, c2, s2⟩, -, X', ⟨g', mk', t, L, e1, e2, hq, h1, hL, h2, h3⟩, hgo⟩ := X.staticBack F.1 F.2.2.2.1 (T9 _ hl) (T9 _ hst) (T9 _ hini) hnamed hmethM hsigM ⟨hd.1, hd.2.1⟩ hK9 (g := F0 m pc ls (As.reverse ++ rest)) rfl (hsz.trans F.2.2.1.symm) (Steps.refl _) (argsL := As) (rest := rest)
    (fun sig h => by have h2 := hd.2.2; rw [h] at h2; exact hn.trans (Option.some.inj h2).symm) rfl (lv_room hW) (by rw [F.2.1]; exact hdg)
    (fun vm₁ hv => ⟨hcs.1, hcs.2, rfl, by show T.heap.size = _; rw [hT], by show va_P D cl wc T.heap; rw [hT]; exact ok_right hP, va_K.moved hv.alike hK, (ok_rightD hD).weaken (fun _ _ _ _ => trivial), hZ _ hT hv⟩)
  dsimp only [Pt.U, Pt.locs, Pt.cells, Pt.slots] at X' e1 e2 h1 h2 h3 hgo
  subst h1; subst h2; subst h3
  exact ⟨v', (T.setVm vm₁).calling g' mk' As.toArray, t, U', L, hT, X', hL, e1, e2, hq, fun target h => hgo.trans h⟩
theorem ok_grow {H H1 : Heap} (h1 : H.size ≤ H1.size) (h2 : ∀ q : Nat, q < H.size → H1[q]? = H[q]?) (hP : va_P D cl ws H) : va_P D cl ws H1 := hP.kept (fun k q hk => h2 q.1 (hP k q hk).lt)
theorem ok_growS {H H1 : Heap} (h1 : H.size ≤ H1.size) (h2 : ∀ q : Nat, q < H.size → H1[q]? = H[q]?) (hS : va_S A H0 H locs) : va_S A H0 H1 locs := ⟨Nat.le_trans hS.1 h1, fun q ha hb => (h2 q (Nat.lt_of_lt_of_le ha hS.1)).trans (hS.2.1 q ha hb), hS.2.2⟩
end OWRAP
