/-! OWN KIT: the throw row, a T contract's start, the catch -/
section OTHR2
variable {p : Program} {l : Launch} {e : Env} {R : Room} {s : State} {m : MethodId} {args : Array Value} {below : List Frame} {meth : Method} {c : Code} {H : Heap} {locs : List Loc} {cells slots : Nat} {Q : State → Prop}
variable {cc : ByteArray} {pc nL : Nat} {ls : Array Slot} {rest st0 : List Value} {D : va_G} {cl : List vw_C} {A : Nat → Prop} {tys : List (ClassId × FieldType)} {ws ws' : va_W} {H0 : Heap} {Ts : List Cond} {own : String} {cw : Cond}
/-- it threw an object of class E; nothing that was there has changed; one new cell -/
def ok_T (E : String) (st : State) (o : Outcome) (t : State) : Prop := ∃ (x : Nat) (ce : Cell), o = .threw x ∧ t.heap[x]? = some ce ∧ ce.vm = .none ∧ st.vm.findClass E = some ce.cls ∧ st.WarmedH t.vm ∧ st.sameButNew ({ t with vm := st.vm } : State) [] 1 6
def ok_TQ (below : List Frame) (E : String) (st : State) : State → Prop := fun t => ∃ o, t.status = .running ∧ Ended t below o ∧ ok_T E st o t
def ok_pT (D : va_G) (cl : List vw_C) (tys : List (ClassId × FieldType)) (ws : va_W) (av : List Value) : Array Value → State → Prop := va_Pc av (fun U => va_P D cl ws U.heap ∧ va_K D cl tys U ∧ th_Z U)
def ok_MT (l : Launch) (y : MethodName) (wt : List Cond) (rm : Room) (D : va_G) (cl : List vw_C) (tys : List (ClassId × FieldType)) (ws : va_W) (av : List Value) (E : String) : Prop :=
  MetFree l y (headSpec wt rm) (ok_pT D cl tys ws av) (fun _ _ _ _ _ => True) (fun _ st o t => ok_T E st o t)
theorem ok_blT {av : List Value} : FrameBlind (ok_pT D cl tys ws av) := fun a U g mk h => ⟨h.1, h.2.1, va_K.moved (u := U) (U := U.calling g mk a) (Vm.Alike.refl U.vm) h.2.2.1, h.2.2.2.same rfl rfl⟩
theorem ok_startT {y : MethodName} {wt wt' : List Cond} {rm : Room} {av : List Value} {E : String} {maxL : Nat} {ret : Option FieldType} (hy : plainName y.cls = true) (hw : wt = Cond.code y cc maxL ret :: wt') (ho : y.cls = own) (hn : (lg_sl av).length ≤ maxL)
    (k : ∀ (p : Program) (e : Env) (s : State) (m : MethodId) (below : List Frame) (meth : Method) (c : Code), CallFix p m c cc maxL s av.toArray wt own → meth.locks = false → c.exceptionTable.isEmpty = true → va_P D cl ws s.heap → va_K D cl tys s → th_Z s →
      ∀ ls : Array Slot, lv_has ls maxL (lv_args 0 av) → W p l e rm s m av.toArray below meth c s.heap [] 0 0 (ok_TQ below E s) (F0 m 0 ls [])) : ok_MT l y wt rm D cl tys ws av E := by
  refine MetFree.of_bodyS (code := cc) (maxLocals := maxL) (ret := ret) hy ?_ ?_
  · intro args s m h hn
    obtain ⟨meth, c, h1, h2, h3, h4, h5, h6, -, -⟩ := Cond.code_spec hn (atoms_spec (ws := wt) h _ (by rw [hw]; exact List.mem_cons_self))
    exact ⟨meth, c, h1, h2, h3, h4, h5, h6⟩
  · intro p e s m args below meth c s₁ B hml hv _
    obtain ⟨rfl, hP, hK, hZ⟩ := hv
    have hts := atoms_spec (ws := wt) B.pre
    have hown : s.vm.findClass y.cls = some m.cls := findClass_of_methodNamed B.named
    rw [ho] at hown
    have hh0 : s₁.heap = s.heap := by rw [B.state]; rfl
    have hc0 := hts (Cond.code y cc maxL ret) (by rw [hw]; exact List.mem_cons_self)
    have K := k p e s m below meth c ⟨B.exec, B.bytes, hml, hown, hts⟩ B.notSynchronized (B.noHandlers hc0) hP hK hZ _ (lv_entry av hn)
    rw [← lg_entry_eq] at K
    obtain ⟨t, a1, o, b1, b2, b3⟩ := K s₁ hh0 (Stand.of_body B)
    exact ⟨t, o, a1, b1, b2, b3⟩
set_option maxHeartbeats 1000000 in
/-- new E; dup; ldc text; invokespecial <init>; athrow -/
theorem ok_throw {E tx : String} {i1 i2 i3 : Nat} (F : CallFix p m c cc nL s args (cw :: tt) ROB) (hlk : meth.locks = false) (hout : c.exceptionTable.isEmpty = true) (hZ : th_Z s) (hfl : l.flags = pinnedFlags ++ [noTraceFlag]) (hX : E ∈ th_ex) (hw : ∀ w ∈ th_xw E, w ∈ tt)
    (h1 : Cond.classLink ROB i1 E ∈ tt) (h3 : Cond.methodLink ROB i3 (Bundle.initS E) ∈ tt) (h2 : (i2, tx) ∈ th_st) (hsz : ls.size = nL) (hR : 6 ≤ R.frames ∧ 82 ≤ R.locals ∧ 1 ≤ R.cells ∧ 6 ≤ R.slots)
    (d0 : decode cc pc = .ok (.new i1, 3)) (d3 : decode cc (pc + 3) = .ok (.dup, 1)) (d4 : decode cc (pc + 4) = .ok (.ldc i2, 2)) (d6 : decode cc (pc + 6) = .ok (.invokespecial i3, 3)) (d9 : decode cc (pc + 9) = .ok (.athrow, 1)) :
    W p l e R s m args below meth c s.heap [] 0 0 (ok_TQ below E s) (F0 m pc ls []) := by
  have T : ∀ w ∈ tt, w.before args s = true := fun w h => F.2.2.2.2 w (List.mem_cons_of_mem _ h)
  have V : ∀ w ∈ th_xw E, w.before args s = true := fun w h => T w (hw w h)
  obtain ⟨q, hq⟩ := hZ.2.2.2.1 _ h2
  have hfit : Bundle.fit E = true := by
    have : ∀ X ∈ th_ex, Bundle.fit X = true := by decide +kernel
    exact this E hX
  refine W.newc F.1 F.2.1 F.2.2.2.1 (T _ h1) (V (.instantiable E 6) (List.mem_of_getElem? (i := 3) rfl)) (V (.initialized E) (List.mem_of_getElem? (i := 11) rfl)) (g := F0 m pc ls []) rfl d0 (by omega) (by omega) (fun cC kC hcC hkC _ _ => ?_)
  refine lv_dup F.1 F.2.1 d3 rfl ?_
  refine va_ldcS F.1 F.2.1 F.2.2.2.1 hq d4 ?_
  intro T0 hT X
  obtain ⟨U, st, hrun, hend, hWU, hsame, ce, hce, hO⟩ := X.ctorThrowS F.1 (Launch.traces_off hfl X.admits) (own := ROB) (cls := E) (names := ["java/lang/RuntimeException", "java/lang/Exception"]) (ic := i3) F.2.2.2.1 hfit (by decide +kernel)
    (th_own F.2.2.2.2 hZ hX h3 hw) (fun x hx => by cases hx) (a := s.heap.size) (cX := cC) (kX := kC) hcC hkC (by rw [hT, Array.getElem?_push_size]) (Nat.le_refl _) (msg := .ref q) rfl (g := F0 m (pc + 6) ls [.ref q, .ref s.heap.size, .ref s.heap.size]) rfl (hsz.trans F.2.2.1.symm) rfl rfl (rest := []) rfl
    (by rw [F.2.1]; exact d6) (by rw [F.2.1]; exact d9) (fun x hx => by
      have h0 : c.exceptionTable.toList = [] := by
        have : c.exceptionTable.size = 0 := by simpa [Array.isEmpty] using hout
        exact List.eq_nil_of_length_eq_zero (by simpa using this)
      rw [h0] at hx; cases hx) (by show 2 + 3 < R.frames; omega) (by show 2 * 0 + _ + (13 * (2 + 1) + 42) ≤ R.locals; simp [Value.category]; omega) hlk
  exact ⟨U, st, _, hrun, hend, s.heap.size, ce, rfl, hce, hO.vm, hO.cls, hWU, hsame⟩
/-- the class that the first entry names isn't linked yet: the search goes on as it does where it is -/
theorem th_warm {S : State} {f : JFrame} {a : Nat} {Q : Handler → Jvm.Pre} {E : Jvm.CtlPost} {d : Bool} {acts : List Action} {x : ExceptionTableEntry} {t : List ExceptionTableEntry} {k : ClassId} (hx : covers x f.pc = true) (h0 : x.catchType ≠ 0) (hl : S.vm.ClassLinks e.platform f.method.cls x.catchType k) :
    Sem.wp (findHandler.go f a (x :: t)) Q E e d acts S ↔ Sem.wp (findHandler.go f a (x :: t)) Q E e d acts (S.setVm (S.vm.noted f.method.cls x.catchType (.cls k))) := by
  obtain ⟨j, hj, hr⟩ := hl.ready
  have cold := (resolveClass_links e.toSetting hl).op (op := VmOp.resolveClass f.method.cls x.catchType) rfl
  have warm := resolveClass_memo e hj hr
  have once : ∀ v : Vm, (S.setVm v).setVm v = S.setVm v := fun _ => rfl
  simp only [covers] at hx
  simp [findHandler.go, hx, h0, cold.1, cold.2, warm.1, warm.2, once, VmOp.dirties, VmOp.acts]
/-- a handler's class can be linked, and the tables stay warm -/
theorem th_link {f : JFrame} {S : State} {i : Nat} {N : String} (hpl : e.platform.magicAccessors = ({} : Platform).magicAccessors) (hown : s.vm.findClass own = some f.method.cls) (hW : s.WarmedH S.vm) (h : (Cond.classLink own i N).before args s = true) :
    ∃ k : ClassId, s.vm.findClass N = some k ∧ S.vm.ClassLinks e.platform f.method.cls i k ∧ s.WarmedH (S.vm.noted f.method.cls i (.cls k)) := by
  obtain ⟨k, hk, hcl⟩ := Cond.classLink_spec hown h e.platform hpl
  obtain ⟨_, _, _, _, hd, _, _, _, _, _, _, hopen⟩ := hcl.here
  exact ⟨k, hk, hW.classLinks hcl, hW.noted hd hopen (State.rightAt_cls hcl)⟩
/-- a piece of the machine's own work whose end is known leads where its rest leads -/
theorem th_do {α : Type} {S S1 U : State} {t : Sem α} {v : α} {k : α → State → List Action → Out} (h : Sem.wp t (fun a _ as s2 => a = v ∧ s2 = S1 ∧ as = []) (fun _ _ _ => False) e false [] S) (hk : ∀ as : List Action, (k v S1 as).1 = U) : (vmDo e S [] t k).1 = U := by
  obtain ⟨as, h1, -⟩ := Sem.go_eq_ok (acts := []) h
  simp only [vmDo, h1]
  exact hk as
end OTHR2
