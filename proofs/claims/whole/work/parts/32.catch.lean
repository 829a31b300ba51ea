/-! OWN KIT: a callee that throws, and the handler that takes it -/
section OCATCH
variable {p : Program} {l : Launch} {e : Env} {R : Room} {s : State} {m : MethodId} {args : Array Value} {below : List Frame} {meth : Method} {c : Code} {T : State} {H : Heap} {locs : List Loc} {cells slots : Nat} {Q : State → Prop}
variable {cc : ByteArray} {pc nL : Nat} {ls : Array Slot} {rest st0 : List Value} {D : va_G} {cl : List vw_C} {A : Nat → Prop} {tys : List (ClassId × FieldType)} {ws ws' : va_W} {H0 : Heap} {Ts : List Cond} {own : String} {cw : Cond}
/-- the handlers hh, asked at pc for an object of class E, lead to tgt -/
def th_H (s : State) (args : Array Value) (own : String) (pc : Nat) (E : String) : List (Nat × Nat × Nat × Nat) → Nat → Prop
  | [], _ => False
  | q :: t, tgt => q.1 ≤ pc ∧ pc < q.2.1 ∧ q.2.2.2 ≠ 0 ∧ (((Cond.classLink own q.2.2.2 E).before args s = true ∧ va_Nw (.castable E E) s ∧ tgt = q.2.2.1) ∨ ∃ N : String, (Cond.classLink own q.2.2.2 N).before args s = true ∧ va_Nc E N s ∧ th_H s args own pc E t tgt)
abbrev th_q (h : ExceptionTableEntry) : Nat × Nat × Nat × Nat := (h.startPc, h.endPc, h.handlerPc, h.catchType)
theorem th_at {N : String} {k : ClassId} {vm' : Vm} (hk : s.vm.findClass N = some k) (hW : s.WarmedH vm') : ∃ j, vm'.classes[k]? = some j := by
  obtain ⟨j, hj⟩ := Vm.classAt_of_findClass hk
  obtain ⟨j', hj', -⟩ := hW.alike.2.2 _ _ hj
  exact ⟨j', hj'⟩
theorem th_run {f : JFrame} {a : Nat} {cell : Cell} {E : String} {tgt : Nat} (hpl : e.platform.magicAccessors = ({} : Platform).magicAccessors) (hv : cell.vm = .none) (hE : s.vm.findClass E = some cell.cls) (hown : s.vm.findClass own = some f.method.cls) :
    ∀ (tab : List ExceptionTableEntry) (S : State), s.WarmedH S.vm → S.heap[a]? = some cell → th_H s args own f.pc E (tab.map th_q) tgt →
      ∃ vm', s.WarmedH vm' ∧ ∀ (Q : Handler → Jvm.Pre) (E : Jvm.CtlPost) (d : Bool) (acts : List Action), Sem.wp (findHandler.go f a tab) Q E e d acts S ↔ Q (.found tgt) d acts (S.setVm vm')
  | [], _, _, _, h => h.elim
  | x :: t, S, hW, hcell, ⟨h1, h2, h0, h⟩ => by
    have hcov : covers x f.pc = true := by simp only [covers, Bool.and_eq_true, decide_eq_true_eq]; exact ⟨h1, h2⟩
    obtain ⟨N, hl, hb⟩ : ∃ N : String, (Cond.classLink own x.catchType N).before args s = true ∧ ((va_Nw (.castable E N) s ∧ tgt = x.handlerPc) ∨ (va_Nc E N s ∧ th_H s args own f.pc E (t.map th_q) tgt)) := by
      rcases h with ⟨a1, a2, a3⟩ | ⟨N, a1, a2, a3⟩
      · exact ⟨E, a1, Or.inl ⟨a2, a3⟩⟩
      · exact ⟨N, a1, Or.inr ⟨a2, a3⟩⟩
    obtain ⟨k, hk, hln, hW'⟩ := th_link hpl hown hW hl
    have one : ∀ (Q : Handler → Jvm.Pre) (E : Jvm.CtlPost) (d : Bool) (acts : List Action), Sem.wp (findHandler.go f a (x :: t)) Q E e d acts S ↔ if (S.vm.noted f.method.cls x.catchType (.cls k)).assignable cell.cls k = true then Q (.found x.handlerPc) d acts (S.setVm (S.vm.noted f.method.cls x.catchType (.cls k))) else Sem.wp (findHandler.go f a t) Q E e d acts (S.setVm (S.vm.noted f.method.cls x.catchType (.cls k))) :=
      fun Q E d acts => (th_warm hcov h0 hln).trans (W.findHandler_go_class (s := S.setVm (S.vm.noted f.method.cls x.catchType (.cls k))) hcov h0 hln.ready hcell (fun j h => by rw [hv] at h; cases h) (th_at hE hW') (th_at hk hW'))
    rcases hb with ⟨hb, rfl⟩ | ⟨hb, hr⟩
    · obtain ⟨c1, c2, e1, e2, hb⟩ := Cond.castable_spec (va_Nw.use (A := args) rfl hb)
      cases e1.symm.trans hE
      cases e2.symm.trans hk
      exact ⟨_, hW', fun Q E d acts => (one Q E d acts).trans (by rw [if_pos (by rw [hW'.alike.assignable]; exact hb)])⟩
    · obtain ⟨c1, c2, e1, e2, hb⟩ := hb
      cases e1.symm.trans hE
      cases e2.symm.trans hk
      obtain ⟨vm', w, hq⟩ := th_run hpl hv hE hown t (S.setVm (S.vm.noted f.method.cls x.catchType (.cls k))) hW' hcell hr
      exact ⟨vm', w, fun Q E d acts => (one Q E d acts).trans (by rw [if_neg (by rw [hW'.alike.assignable, hb]; decide)]; exact hq Q E d acts)⟩
theorem th_caught (X : Stand p l e R s m args below meth c T locs cells slots) {g : JFrame} (hg : g.method = m) {a : Nat} {cell : Cell} {E : String} {tgt : Nat} (hcell : T.heap[a]? = some cell) (hv : cell.vm = .none) (hE : s.vm.findClass E = some cell.cls) (hown : s.vm.findClass own = some m.cls)
    (hH : th_H s args own g.pc E (c.exceptionTable.toList.map th_q) tgt) :
    ∃ vm', Stand p l e R s m args below meth c (T.setVm vm') locs cells slots ∧ ∀ t, Steps p.tables e below ((T.setVm vm').setTop { g with pc := tgt, stack := [.ref a] }) t → Steps p.tables e below ((T.setTop g).pushFrame (.throwing a)) t := by
  subst hg
  obtain ⟨g₀, hfr⟩ := X.frames_eq
  obtain ⟨vm', hW', hq⟩ := th_run (f := g) (a := a) (by rw [X.admits.platform]) hv hE hown c.exceptionTable.toList ((T.setTop g).pushFrame (.throwing a)) X.warmed hcell hH
  have hf := fun Q E d acts => (W.findHandler_eq (f := g) (a := a) (Q := Q) (E := E) (e := e) (d := d) (acts := acts) (s := (T.setTop g).pushFrame (.throwing a)) X.method' X.code).trans (hq Q E d acts)
  have go : (stepThread p.tables e ((T.setTop g).pushFrame (.throwing a))).1 = (T.setVm vm').setTop { g with pc := tgt, stack := [.ref a] } := by
    rw [stepThread_throwing (frames_entered X.here.top _)]
    simp only [stepThrowing, searchFrame]
    refine th_do (v := Handler.found tgt) (S1 := ((T.setTop g).pushFrame (.throwing a)).setVm vm') (by simp [hf]) fun as => ?_
    rw [State.setTop_of_frames (s := T.setVm vm') _ hfr, State.pushFrame, State.setTop_of_frames g hfr, hfr]
    show ((((T.setVm vm').setFrames _).setFrames _).setFrames _) = _
    simp only [State.setFrames_setFrames, List.tail_cons]
  exact ⟨vm', X.noted hW', fun t ht => Steps.head (X.here.throwing a).1 (X.here.throwing a).2 (by rw [go]; exact ht)⟩
/-- a callee has thrown v: where the walk stands, v being thrown over its frame -/
theorem th_away (X : Stand p l e R s m args below meth c T locs cells slots) {g : JFrame} {mk : MethodId} {av : Array Value} {t : State} {v k n : Nat} (hf : t.frames = .throwing v :: .java g :: T.frames.tail) (hW : T.WarmedH t.vm) (hs : (T.calling g mk av).sameButNew (t.setVm T.vm) [] k n) :
    Stand p l e R s m args below meth c (t.setFrames T.frames) locs (cells + k) (slots + n) ∧ t = ((t.setFrames T.frames).setTop g).pushFrame (.throwing v) := by
  obtain ⟨g₀, hfr⟩ := X.frames_eq
  obtain ⟨x, hx, -⟩ := State.frames_cons hfr
  obtain ⟨y, hy, -⟩ := State.frames_cons hf
  have h0 : T.sameButNew (T.calling g mk av) [] 0 0 := by rw [State.calling_eq X.here.top]; exact (State.sameButNew.refl T hx).setFrames _ (State.cur_lt_of_frames hfr)
  have h1 := (h0.trans hs).setFrames T.frames (State.cur_lt_of_frames hfr)
  rw [List.append_nil, Nat.zero_add, Nat.zero_add] at h1
  have hF : (t.setFrames T.frames).frames = T.frames := State.frames_setFrames _ (State.cur_lt_of_frames hf)
  have hT : t.setFrames T.frames = ({ T with heap := t.heap, slotsUsed := t.slotsUsed } : State).setVm t.vm := by
    have h2 : t.setFrames T.frames = ({ T.setFrames (t.setFrames T.frames).frames with heap := t.heap, slotsUsed := t.slotsUsed } : State).setVm t.vm := congrArg (fun z => State.setVm z t.vm) h1.1
    rw [hF, State.setFrames_self hx] at h2
    exact h2
  have X2 := X.moved (T₂ := t.setFrames T.frames) (l₂ := []) (by rw [hT]; exact (X.here.setHeapUsed t.heap t.slotsUsed).setVm hW.alike) (by rw [hF]; exact X.tail) (by rw [hT]; rfl) (by rw [hT]; rfl) hW h1
  rw [List.append_nil] at X2
  refine ⟨X2, ?_⟩
  have hG := hF.trans hfr
  rw [State.pushFrame, State.frames_setTop g hG, State.setTop_of_frames g hG, State.setFrames_setFrames, State.setFrames_setFrames]
  exact (State.setFrames_self hy).symm.trans (by rw [hf, hfr]; rfl)
set_option maxHeartbeats 1000000 in
/-- invokevirtual of a method that throws an E, and the handler that takes it -/
theorem ok_VT {y : MethodName} {bytes : ByteArray} {maxL index : Nat} {ret : Option FieldType} {wt wt' : List Cond} {rm : Room} {C E : String} {b : Nat} {As : List Value} {tgt : Nat} (F : CallFix p m c cc nL s args Ts own) (hM : ok_MT l y wt rm D cl tys ws (.ref b :: As) E) (n : Nat) (hG : GoodIn Ts (wsV own index C y wt)) (hw : wt = Cond.code y bytes maxL ret :: wt') (hz : rm.cells = 1 ∧ rm.slots = 6)
    (hd : y.cls = C ∧ y.cls ≠ "java/lang/invoke/MethodHandle" ∧ y.cls ≠ "java/lang/invoke/VarHandle" ∧ (parseMethodDescriptor y.desc).map (fun d => d.parameters.length) = some n) (hR : rm.frames + 1 ≤ R.frames ∧ 8 + (maxL + 11) + rm.locals ≤ R.locals)
    (hK : va_K D cl tys s) (hP : va_P D cl ws H) (hZ : ∀ U : State, U.heap = H → s.WarmedH U.vm → th_Z U) (q0 ci : Nat) {q : vw_C} {fs : List Value} (hq : cl[ci]? = some q) (hqC : q.1 = C) (he : ws[q0]? = some (b, .inr (ci, fs))) (hn : As.length = n) (hsz : ls.size = nL) (hst : st0 = As.reverse ++ .ref b :: rest) (hW : (rest.map fun v => v.category).sum ≤ 8) (hcs : cells + 1 ≤ R.cells ∧ slots + 6 ≤ R.slots) (hdg : decode cc pc = .ok (.invokevirtual index, 3))
    (hH : th_H s args own pc E (c.exceptionTable.toList.map th_q) tgt)
    (kk : ∀ (H1 : Heap) (a : Nat), H.size ≤ H1.size → (∀ q : Nat, q < H.size → H1[q]? = H[q]?) → W p l e R s m args below meth c H1 locs (cells + 1) (slots + 6) Q (F0 m tgt ls [.ref a])) : W p l e R s m args below meth c H locs cells slots Q (F0 m pc ls st0) := by
  subst hst
  obtain ⟨⟨-, -, hfr, hlo, hws, hcw, hcode, hini, hy, hlen, hl⟩, hin, hse⟩ := cwV (mc := 1) (ms := 6) n F.2.2.2.2 hG hw hz.1 hz.2 hd hR
  obtain ⟨cellB, hcB, hoB, hclB⟩ := va_recv hK hP hq he
  rw [hqC] at hclB
  intro T hT X
  obtain ⟨mk, methM, hnamed, hmethM, hstM, habM⟩ := Cond.instanceMethod_spec hin
  obtain ⟨methM', cM, hmethM', -, -, -, -, -, -, hsigM⟩ := Cond.code_spec hnamed hcode
  cases hmethM.symm.trans hmethM'
  obtain ⟨c2, r2, m2, q1, q2, q3, q4, kP, hkP, hkPi⟩ := Cond.selects_spec hse
  cases hclB.symm.trans q1
  cases (State.methodFound?_of_named hnamed hy).symm.trans q2
  cases hnamed.symm.trans q3
  have hselP : selectMethod e.platform s.vm cellB.cls mk = .method mk := by rw [Launch.admits_selectMethod X.admits]; exact q4
  obtain ⟨vm₁, X₁, hstep₁⟩ := X.invokevirtual F.1 F.2.2.2.1 hl hnamed hmethM hstM hkP hkPi hy (a := b) (cell := cellB) (by rw [hT]; exact hcB)
    (fun z h => by rw [h] at hoB; cases hoB) hselP hmethM habM hkP hkPi (g := F0 m pc ls (As.reverse ++ .ref b :: rest)) rfl (argsL := As) (rest := rest) (hn.trans (hlen _ hsigM)) rfl (by rw [F.2.1]; exact hdg)
  -- the call
  have hT1 : (T.setVm vm₁).heap = H := hT
  generalize hU : T.setVm vm₁ = U at X₁ hstep₁ hT1
  have hnm : U.methodNamed? y = some mk := X₁.named hnamed
  have hd3 : decode c.code (F0 m pc ls rest).pc = .ok (.invokevirtual index, 3) := by rw [F.2.1]; exact hdg
  obtain ⟨methY, cY, hmY, hcY, -, hlY, -, -, -, -⟩ := Cond.code_spec hnm (hws _ hcw (Value.ref b :: As).toArray U X₁.warmed)
  obtain ⟨kY, hkY, -⟩ := className_of_methodNamed hnm
  have hinitY : kY.init = .initialized := Cond.initialized_spec (findClass_of_methodNamed hnm) hkY (word_at (a' := (Value.ref b :: As).toArray) X₁.warmed (Or.inl rfl) hini)
  have h : At U m c below := X₁.here
  have happ : (headSpec wt rm).appliesLoose y e.platform (U.calling (F0 m pc ls rest) mk (Value.ref b :: As).toArray) = true :=
    Spec.appliesLoose_calling (g := F0 m pc ls rest) h hd3 hnm hkY hinitY
      (X₁.room_calling (g := F0 m pc ls rest) (R' := rm) (hsz.trans F.2.2.1.symm) hmY hcY hfr (by rw [hlY]; have h0 : 2 * (F0 m pc ls rest).monitorRoom = 0 := rfl; have h9 : (List.map (fun v => v.category) (F0 m pc ls rest).stack).sum ≤ 8 := hW; omega) (by rw [hz.1]; exact hcs.1) (by rw [hz.2]; exact hcs.2)) (atoms_intro fun w hw9 => hws w hw9 _ _ X₁.warmed)
  obtain ⟨mid, hmid⟩ := h.above
  have hfr2 : (U.setTop (F0 m pc ls rest)).frames = (.java (F0 m pc ls rest) :: mid) ++ below := by rw [State.frames_setTop' _ h.top, hmid]; rfl
  have hPc : ok_pT D cl tys ws (.ref b :: As) (Value.ref b :: As).toArray U := ⟨rfl, by rw [hT1]; exact hP, va_K.moved X₁.warmed.alike hK, hZ U hT1 X₁.warmed⟩
  obtain ⟨o, s₂, hsteps, -, hend, hq9⟩ := Steps.callFree hM p X₁.admits X₁.cas X₁.clock (acts := []) hfr2 happ (ok_blT _ _ _ _ hPc) trivial
  rw [State.frames_setTop' _ h.top] at hend
  obtain ⟨v, ce, rfl, hce, hcev, hceE, hWt, hsm⟩ := (hq9 : ok_T E (U.calling (F0 m pc ls rest) mk (Value.ref b :: As).toArray) o s₂)
  obtain ⟨X2, ht⟩ := th_away X₁ hend hWt hsm
  obtain ⟨vm', X3, st3⟩ := th_caught X2 (g := F0 m pc ls rest) rfl (a := v) (cell := ce) hce hcev (by rw [← X₁.warmed.alike.findClass]; exact hceE) F.2.2.2.1 hH
  have hH1 : U.heap.size ≤ s₂.heap.size := hsm.2.1
  rw [hT1] at hH1
  obtain ⟨t, a1, b1⟩ := kk s₂.heap v hH1 (fun q hq => by
    have h9 : U.heap[q]? = some H[q] := by rw [hT1]; exact Array.getElem?_eq_getElem hq
    exact (hsm.old_cell h9).trans (Array.getElem?_eq_getElem hq).symm) ((s₂.setFrames U.frames).setVm vm') rfl X3
  refine ⟨t, hstep₁ _ fun acts => ?_, b1⟩
  rw [doInvoke_state]
  exact hsteps.trans (by rw [ht]; exact st3 t a1)
end OCATCH
