/-! OWN KIT: a callee that throws, and the handler that takes it -/
section OCATCH
variable {p : Program} {l : Launch} {e : Env} {R : Room} {s : State} {m : MethodId} {args : Array Value} {below : List Frame} {meth : Method} {c : Code} {T : State} {H : Heap} {locs : List Loc} {cells slots : Nat} {Q : State → Prop}
variable {cc : ByteArray} {pc nL : Nat} {ls : Array Slot} {rest st0 : List Value} {D : va_G} {cl : List vw_C} {A : Nat → Prop} {tys : List (ClassId × FieldType)} {ws ws' : va_W} {H0 : Heap} {Ts : List Cond} {own : String} {cw : Cond}
/-- the handlers hh, asked at pc for an object of class E, lead to tgt -/
def th_H (s : State) (args : Array Value) (own : String) (pc : Nat) (E : String) : List (Nat × Nat × Nat × Nat) → Nat → Prop
  | [], _ => False
  | q :: t, tgt => q.1 ≤ pc ∧ pc < q.2.1 ∧ q.2.2.2 ≠ 0 ∧ (((Cond.classLink own q.2.2.2 E).before args s = true ∧ va_Nw (.castable E E) s ∧ tgt = q.2.2.1) ∨ ∃ N : String, (Cond.classLink own q.2.2.2 N).before args s = true ∧ va_Nc E N s ∧ th_H s args own pc E t tgt)
abbrev th_q (h : ExceptionTableEntry) : Nat × Nat × Nat × Nat := (h.startPc, h.endPc, h.handlerPc, h.catchType)
theorem th_run {f : JFrame} {a : Nat} {cell : Cell} {E : String} {tgt : Nat} (hpl : e.platform.magicAccessors = ({} : Platform).magicAccessors) (hv : cell.vm = .none) (hE : s.vm.findClass E = some cell.cls) (hown : s.vm.findClass own = some f.method.cls) :
    ∀ (tab : List ExceptionTableEntry) (S : State), s.WarmedH S.vm → S.heap[a]? = some cell → th_H s args own f.pc E (tab.map th_q) tgt →
      ∃ vm', s.WarmedH vm' ∧ ∀ (Q : Handler → Jvm.Pre) (E : Jvm.CtlPost) (d : Bool) (acts : List Action), Sem.wp (findHandler.go f a tab) Q E e d acts S ↔ Q (.found tgt) d acts (S.setVm vm') := by
  intro tab
  obtain ⟨k0, hk0⟩ := Vm.classAt_of_findClass hE
  have hobj : ∀ j, cell.vm ≠ .statics j := fun j h => by rw [hv] at h; cases h
  induction tab with
  | nil => intro S _ _ h; exact h.elim
  | cons x t ih =>
    intro S hW hcell h
    obtain ⟨h1, h2, h0, h⟩ := h
    have hcov : covers x f.pc = true := by simp only [covers, Bool.and_eq_true, decide_eq_true_eq]; exact ⟨h1, h2⟩
    obtain ⟨k0', hk0', -⟩ := hW.alike.2.2 _ _ hk0
    rcases h with ⟨hl, hca, rfl⟩ | ⟨N, hl, hno, hr⟩
    · obtain ⟨k, hk, hcl⟩ := Cond.classLink_spec hown hl e.platform hpl
      obtain ⟨c1, c2, hc1, hc2, hasg⟩ := Cond.castable_spec (va_Nw.use (A := args) rfl hca)
      cases hc1.symm.trans hE
      cases hc2.symm.trans hk
      obtain ⟨dk, _, _, kt, hd, _, _, _, _, hkt, _, hopen⟩ := hcl.here
      obtain ⟨kt', hkt', -⟩ := hW.alike.2.2 _ _ hkt
      refine ⟨_, hW.noted hd hopen (State.rightAt_cls hcl), fun Q E d acts => ?_⟩
      rw [th_go hcov h0 (hW.classLinks hcl) hcell hobj ⟨k0', hk0'⟩ ⟨kt', hkt'⟩, if_pos (by rw [hW.alike.assignable]; exact hasg)]
    · obtain ⟨k, hk, hcl⟩ := Cond.classLink_spec hown hl e.platform hpl
      obtain ⟨c1, c2, hc1, hc2, hasg⟩ := hno
      cases hc1.symm.trans hE
      cases hc2.symm.trans hk
      obtain ⟨dk, _, _, kt, hd, _, _, _, _, hkt, _, hopen⟩ := hcl.here
      obtain ⟨kt', hkt', -⟩ := hW.alike.2.2 _ _ hkt
      obtain ⟨vm', hW', hq⟩ := ih (S.setVm (S.vm.noted f.method.cls x.catchType (.cls k))) (hW.noted hd hopen (State.rightAt_cls hcl)) hcell hr
      refine ⟨vm', hW', fun Q E d acts => ?_⟩
      rw [th_go hcov h0 (hW.classLinks hcl) hcell hobj ⟨k0', hk0'⟩ ⟨kt', hkt'⟩, if_neg (by rw [hW.alike.assignable, hasg]; decide)]
      exact hq Q E d acts
theorem th_caught (X : Stand p l e R s m args below meth c T locs cells slots) {g : JFrame} (hg : g.method = m) {a : Nat} {cell : Cell} {E : String} {tgt : Nat} (hcell : T.heap[a]? = some cell) (hv : cell.vm = .none) (hE : s.vm.findClass E = some cell.cls) (hown : s.vm.findClass own = some m.cls)
    (hH : th_H s args own g.pc E (c.exceptionTable.toList.map th_q) tgt) :
    ∃ vm', Stand p l e R s m args below meth c (T.setVm vm') locs cells slots ∧ ∀ t, Steps p.tables e below ((T.setVm vm').setTop { g with pc := tgt, stack := [.ref a] }) t → Steps p.tables e below ((T.setTop g).pushFrame (.throwing a)) t := by
  subst hg
  have hpl : e.platform.magicAccessors = ({} : Platform).magicAccessors := by rw [X.admits.platform]
  obtain ⟨vm', hW', hq⟩ := th_run (f := g) (a := a) hpl hv hE hown c.exceptionTable.toList ((T.setTop g).pushFrame (.throwing a)) X.warmed hcell hH
  have hf : ∀ (Q : Handler → Jvm.Pre) (E : Jvm.CtlPost) (d : Bool) (acts : List Action), Sem.wp (findHandler g a) Q E e d acts ((T.setTop g).pushFrame (.throwing a)) ↔ Q (.found tgt) d acts (((T.setTop g).pushFrame (.throwing a)).setVm vm') := fun Q E d acts => (W.findHandler_eq (s := (T.setTop g).pushFrame (.throwing a)) (meth := meth) (code := c) X.method' X.code).trans (hq Q E d acts)
  refine ⟨vm', X.noted hW', fun t ht => ?_⟩
  obtain ⟨hgo, hw⟩ := X.here.throwing a
  refine Steps.head hgo hw ?_
  obtain ⟨g₀, hfr⟩ := X.frames_eq
  have hstep : (stepThrowing e ((T.setTop g).pushFrame (.throwing a)) a (.java g :: T.frames.tail)).Is ((((T.setTop g).pushFrame (.throwing a)).setVm vm').setFrames (.java { g with pc := tgt, stack := [.ref a] } :: T.frames.tail)) [] := by
    simp only [stepThrowing, searchFrame, vmDo]
    generalize hr : Sem.go _ e false [] _ = res
    obtain ⟨as, rfl, ha⟩ := Sem.eq_ok_of hr (a := Handler.found tgt) (s' := ((T.setTop g).pushFrame (.throwing a)).setVm vm') (acts' := []) (by simp [hf _ _ _ _])
    exact ⟨rfl, ha⟩
  rw [stepThread_throwing (frames_entered X.here.top _), hstep.1]
  have e1 : (((T.setTop g).pushFrame (.throwing a)).setVm vm').setFrames (.java { g with pc := tgt, stack := [.ref a] } :: T.frames.tail) = (T.setVm vm').setTop { g with pc := tgt, stack := [.ref a] } := by
    have hr' : (T.setVm vm').frames = .java g₀ :: below := hfr
    rw [State.setTop_of_frames _ hr', State.pushFrame, State.setTop_of_frames _ hfr, hfr, List.tail_cons]
    show ((((T.setVm vm').setFrames _).setFrames _).setFrames _) = _
    rw [State.setFrames_setFrames, State.setFrames_setFrames]
  rw [e1]
  exact ht
theorem th_same {a b : State} {k n : Nat} (h : a.sameButNew b [] k n) : ∀ q : Nat, q < a.heap.size → b.heap[q]? = a.heap[q]? := by
  intro q hq
  have h0 : a.heap[q]? = some a.heap[q] := Array.getElem?_eq_getElem hq
  obtain ⟨c', h1, h2, h3, h4⟩ := h.2.2.2.2.2 q _ h0
  rw [h1, h0]
  have : c'.slots = a.heap[q].slots := Array.ext_getElem? (fun i => h4 i (by simp))
  rw [h2, this]
set_option maxHeartbeats 1000000 in
/-- invokevirtual of a method that throws an E, and the handler that takes it -/
theorem ok_VT {y : MethodName} {bytes : ByteArray} {maxL index : Nat} {ret : Option FieldType} {wt wt' : List Cond} {rm : Room} {C E : String} {b : Nat} {As : List Value} {tgt : Nat} (F : CallFix p m c cc nL s args Ts own) (hM : ok_MT l y wt rm D cl tys ws (.ref b :: As) E) (n : Nat) (hG : GoodIn Ts (wsV own index C y wt)) (hw : wt = Cond.code y bytes maxL ret :: wt') (hz : rm.cells = 1 ∧ rm.slots = 6)
    (hd : y.cls = C ∧ y.cls ≠ "java/lang/invoke/MethodHandle" ∧ y.cls ≠ "java/lang/invoke/VarHandle" ∧ (parseMethodDescriptor y.desc).map (fun d => d.parameters.length) = some n) (hR : rm.frames + 1 ≤ R.frames ∧ 8 + (maxL + 11) + rm.locals ≤ R.locals)
    (hK : va_K D cl tys s) (hP : va_P D cl ws H) (hZ : ∀ U : State, U.heap = H → s.WarmedH U.vm → th_Z U) (q0 ci : Nat) {q : vw_C} {fs : List Value} (hq : cl[ci]? = some q) (hqC : q.1 = C) (he : ws[q0]? = some (b, .inr (ci, fs))) (hn : As.length = n) (hsz : ls.size = nL) (hst : st0 = As.reverse ++ .ref b :: rest) (hW : (rest.map fun v => v.category).sum ≤ 8) (hcs : cells + 1 ≤ R.cells ∧ slots + 6 ≤ R.slots) (hdg : decode cc pc = .ok (.invokevirtual index, 3))
    (hH : th_H s args own pc E (c.exceptionTable.toList.map th_q) tgt)
    (kk : ∀ (H1 : Heap) (a : Nat), H.size ≤ H1.size → (∀ q : Nat, q < H.size → H1[q]? = H[q]?) → W p l e R s m args below meth c H1 locs (cells + 1) (slots + 6) Q (F0 m tgt ls [.ref a])) : W p l e R s m args below meth c H locs cells slots Q (F0 m pc ls st0) := by
  subst hst
  obtain ⟨⟨-, -, hfr, hlo, hws, hcw, hcode, hini, hy, hlen, hl⟩, hin, hse⟩ := cwV (mc := 1) (ms := 6) n F.2.2.2.2 hG hw hz.1 hz.2 hd hR
  obtain ⟨cellB, hcB, hoB, hclB⟩ := va_recv hK hP hq he
  rw [hqC] at hclB
  intro T hT X
  obtain ⟨mk, methM, hnamed, hmethM, hstM, habM⟩ := Cond.instanceMethod_spec hin
  obtain ⟨methM', cM, hmethM', -, -, -, -, -, -, hsigM⟩ := Cond.code_spec hnamed hcode
  cases hmethM.symm.trans hmethM'
  obtain ⟨c2, r2, m2, q1, q2, q3, q4, kP, hkP, hkPi⟩ := Cond.selects_spec hse
  cases hclB.symm.trans q1
  cases (State.methodFound?_of_named hnamed hy).symm.trans q2
  cases hnamed.symm.trans q3
  have hselP : selectMethod e.platform s.vm cellB.cls mk = .method mk := by rw [Launch.admits_selectMethod X.admits]; exact q4
  obtain ⟨vm₁, X₁, hstep₁⟩ := X.invokevirtual F.1 F.2.2.2.1 hl hnamed hmethM hstM hkP hkPi hy (a := b) (cell := cellB) (by rw [hT]; exact hcB)
    (fun z h => by rw [h] at hoB; cases hoB) hselP hmethM habM hkP hkPi (g := F0 m pc ls (As.reverse ++ .ref b :: rest)) rfl (argsL := As) (rest := rest) (hn.trans (hlen _ hsigM)) rfl (by rw [F.2.1]; exact hdg)
  -- the call
  have hT1 : (T.setVm vm₁).heap = H := hT
  generalize hU : T.setVm vm₁ = U at X₁ hstep₁ hT1
  have hnm : U.methodNamed? y = some mk := X₁.named hnamed
  have hd3 : decode c.code (F0 m pc ls rest).pc = .ok (.invokevirtual index, 3) := by rw [F.2.1]; exact hdg
  obtain ⟨methY, cY, hmY, hcY, -, hlY, -, -, -, -⟩ := Cond.code_spec hnm (hws _ hcw (Value.ref b :: As).toArray U X₁.warmed)
  obtain ⟨kY, hkY, -⟩ := className_of_methodNamed hnm
  have hinitY : kY.init = .initialized := Cond.initialized_spec (findClass_of_methodNamed hnm) hkY (word_at (a' := (Value.ref b :: As).toArray) X₁.warmed (Or.inl rfl) hini)
  have h : At U m c below := X₁.here
  have happ : (headSpec wt rm).appliesLoose y e.platform (U.calling (F0 m pc ls rest) mk (Value.ref b :: As).toArray) = true :=
    Spec.appliesLoose_calling (g := F0 m pc ls rest) h hd3 hnm hkY hinitY
      (X₁.room_calling (g := F0 m pc ls rest) (R' := rm) (hsz.trans F.2.2.1.symm) hmY hcY hfr (by rw [hlY]; have h0 : 2 * (F0 m pc ls rest).monitorRoom = 0 := rfl; have h9 : (List.map (fun v => v.category) (F0 m pc ls rest).stack).sum ≤ 8 := hW; omega) (by rw [hz.1]; exact hcs.1) (by rw [hz.2]; exact hcs.2)) (atoms_intro fun w hw9 => hws w hw9 _ _ X₁.warmed)
  obtain ⟨mid, hmid⟩ := h.above
  have hfr2 : (U.setTop (F0 m pc ls rest)).frames = (.java (F0 m pc ls rest) :: mid) ++ below := by rw [State.frames_setTop' _ h.top, hmid]; rfl
  have hPc : ok_pT D cl tys ws (.ref b :: As) (Value.ref b :: As).toArray U := ⟨rfl, by rw [hT1]; exact hP, va_K.moved X₁.warmed.alike hK, hZ U hT1 X₁.warmed⟩
  obtain ⟨o, s₂, hsteps, -, hend, hq9⟩ := Steps.callFree hM p X₁.admits X₁.cas X₁.clock (acts := []) hfr2 happ (ok_blT _ _ _ _ hPc) trivial
  rw [State.frames_setTop' _ h.top] at hend
  obtain ⟨v, ce, rfl, hce, hcev, hceE, hW₂, e2, q2, q3, q4, q5, q6⟩ := (hq9 : ok_T E (U.calling (F0 m pc ls rest) mk (Value.ref b :: As).toArray) o s₂)
  have hkeep := th_same (⟨e2, q2, q3, q4, q5, q6⟩ : State.sameButNew (U.calling (F0 m pc ls rest) mk (Value.ref b :: As).toArray) _ [] 1 6)
  have e3 : s₂ = ({ (U.calling (F0 m pc ls rest) mk (Value.ref b :: As).toArray).setFrames s₂.frames with heap := s₂.heap, slotsUsed := s₂.slotsUsed } : State).setVm s₂.vm := by
    have : s₂ = ({ s₂ with vm := (U.calling (F0 m pc ls rest) mk (Value.ref b :: As).toArray).vm } : State).setVm s₂.vm := rfl
    exact this.trans (congrArg (fun z => State.setVm z s₂.vm) e2)
  have hf₂ : s₂.frames = .throwing v :: .java (F0 m pc ls rest) :: U.frames.tail := hend
  have hW' : U.WarmedH s₂.vm := hW₂
  obtain ⟨g₀, hr⟩ := X₁.frames_eq
  have hs₂ : s₂ = ((({ U with heap := s₂.heap, slotsUsed := s₂.slotsUsed } : State).setVm s₂.vm).setTop (F0 m pc ls rest)).pushFrame (.throwing v) := by
    have hr' : (({ U with heap := s₂.heap, slotsUsed := s₂.slotsUsed } : State).setVm s₂.vm).frames = .java g₀ :: below := hr
    refine e3.trans ?_
    rw [hf₂, State.calling_eq h.top, State.setFrames_setFrames, State.pushFrame, State.frames_setTop _ hr', State.setTop_of_frames _ hr', State.setFrames_setFrames, hr]
    rfl
  have hsame : U.sameButNew ({ U with heap := s₂.heap, slotsUsed := s₂.slotsUsed } : State) [] 1 6 := by
    refine ⟨?_, q2, q3, q4, q5, q6⟩
    obtain ⟨t, ht, -⟩ := State.frames_cons hr
    show ({ U with heap := s₂.heap, slotsUsed := s₂.slotsUsed } : State) = { U.setFrames U.frames with heap := s₂.heap, slotsUsed := s₂.slotsUsed }
    rw [State.setFrames_self ht]
  have X2 : Stand p l e R s m args below meth c ((({ U with heap := s₂.heap, slotsUsed := s₂.slotsUsed } : State).setVm s₂.vm)) (locs ++ []) (cells + 1) (slots + 6) :=
    ⟨X₁.admits, X₁.cas, X₁.clock, X₁.frames, X₁.room, X₁.hears, X₁.method, X₁.code, (X₁.here.setHeapUsed s₂.heap s₂.slotsUsed).setVm hW'.alike, X₁.tail, State.WarmedH.trans X₁.warmed hW', X₁.limits, X₁.bytes, X₁.same.trans (hsame.setVm s.vm)⟩
  rw [List.append_nil] at X2
  have hE2 : s.vm.findClass E = some ce.cls := by
    have : U.vm.findClass E = some ce.cls := hceE
    rwa [X₁.warmed.alike.findClass] at this
  obtain ⟨vm', X3, st3⟩ := th_caught X2 (g := F0 m pc ls rest) rfl (a := v) (cell := ce) hce hcev hE2 F.2.2.2.1 hH
  obtain ⟨t, a1, b1⟩ := kk s₂.heap v (by rw [← hT1]; exact q2) (fun q hq => by rw [← hT1] at hq ⊢; exact hkeep q hq) ((({ U with heap := s₂.heap, slotsUsed := s₂.slotsUsed } : State).setVm s₂.vm).setVm vm') rfl X3
  refine ⟨t, hstep₁ _ fun acts => ?_, b1⟩
  rw [doInvoke_state]
  refine hsteps.trans ?_
  rw [hs₂]
  exact st3 t a1
end OCATCH
