/-! ===== a call that throws: out of the caller, or into its handler ===== -/
section XT3
variable {p : Program} {l : Launch} {e : Env} {R : Room} {s : State} {m : MethodId} {args : Array Value} {below : List Frame} {meth : Method} {c : Code} {locs : List Loc} {cells slots : Nat}
theorem xt_back {y : MethodName} {b : ByteArray} {nY : Nat} {ret : Option FieldType} {rm : Room} {Pc : Array Value → State → Prop} {cls : String} {mc ms : Nat} (hM : TMet l y b nY ret rm Pc cls mc ms) (hbl : FrameBlind Pc) {U : State} (X : Stand p l e R s m args below meth c U locs cells slots) {g : JFrame} {ig : Instr} {len : Nat} {mk : MethodId} {a : Array Value} (hg : g.method = m) (hsize : g.locals.size = c.maxLocals) (hdg : decode c.code g.pc = .ok (ig, len)) (hn : U.methodNamed? y = some mk) (hw : (Cond.code y b nY ret).before a U = true) (hi : (Cond.initialized y.cls).before a U = true) (hP : Pc a U) (hfr : rm.frames + 1 ≤ R.frames) (hlo : 8 + (nY + 11) + rm.locals ≤ R.locals) (hst : 2 * g.monitorRoom + (g.stack.map fun v => v.category).sum ≤ 8) (hc : cells + rm.cells ≤ R.cells) (hsl : slots + rm.slots ≤ R.slots) :
    ∃ (x : Addr) (T' : State), Stand p l e R s m args below meth c T' locs (cells + mc) (slots + ms) ∧ (∃ ce, T'.heap[x]? = some ce ∧ U.vm.findClass cls = some ce.cls ∧ ce.vm = .none) ∧ (∀ q, q < U.heap.size → T'.heap[q]? = U.heap[q]?) ∧ U.heap.size ≤ T'.heap.size ∧ Steps p.tables e below (doInvoke e (U.setTop g) [] mk a).1 ((T'.setTop g).pushFrame (.throwing x)) := by
  obtain ⟨methY, cY, hmY, hcY, -, hlY, -, -, -, -⟩ := Cond.code_spec hn hw
  obtain ⟨kY, hkY, -⟩ := className_of_methodNamed hn
  have hinitY : kY.init = .initialized := Cond.initialized_spec (findClass_of_methodNamed hn) hkY hi
  have h : At U g.method c below := by rw [hg]; exact X.here
  have happ : (headSpec [.code y b nY ret] rm).appliesLoose y e.platform (U.calling g mk a) = true :=
    Spec.appliesLoose_calling (g := g) h hdg hn hkY hinitY
      (X.room_calling (g := g) (R' := rm) hsize hmY hcY hfr (by rw [hlY]; omega) hc hsl) (atoms_intro fun w hw' => by rw [List.mem_singleton.mp hw']; exact hw)
  obtain ⟨mid, hmid⟩ := h.above
  have hfr2 : (U.setTop g).frames = (.java g :: mid) ++ below := by rw [State.frames_setTop' g h.top, hmid]; rfl
  obtain ⟨o, s₂, hsteps, -, hend, hq⟩ := Steps.callFree hM p X.admits X.cas X.clock (acts := []) hfr2 happ (hbl _ _ _ _ hP) trivial
  have hq' : ∃ x, o = .threw x ∧ xT cls (U.calling g mk a) x s₂ mc ms := hq
  rw [State.frames_setTop' g h.top] at hend
  obtain ⟨x, rfl, ⟨ce, c1, c2, c3⟩, hW₂, hsm⟩ := hq'
  obtain ⟨e2, q2, q3, q4, q5, q6⟩ := id hsm
  have e3 : s₂ = ({ (U.calling g mk a).setFrames s₂.frames with heap := s₂.heap, slotsUsed := s₂.slotsUsed } : State).setVm s₂.vm := by
    have : s₂ = ({ s₂ with vm := (U.calling g mk a).vm } : State).setVm s₂.vm := rfl
    rw [e2] at this
    exact this
  have hW' : U.WarmedH s₂.vm := hW₂
  obtain ⟨g₀, hg0⟩ := Option.isSome_iff_exists.mp h.top
  obtain ⟨r, hr⟩ := State.topJava?_eq_some.mp hg0
  have hf₂ : s₂.frames = .throwing x :: .java g :: U.frames.tail := hend
  have hs₂ : s₂ = ((({ U with heap := s₂.heap, slotsUsed := s₂.slotsUsed } : State).setVm s₂.vm).setTop g).pushFrame (.throwing x) := by
    have hr' : (({ U with heap := s₂.heap, slotsUsed := s₂.slotsUsed } : State).setVm s₂.vm).frames = .java g₀ :: r := hr
    refine e3.trans ?_
    rw [hf₂, State.calling_eq h.top, State.setFrames_setFrames, State.pushFrame, State.frames_setTop _ hr', State.setTop_of_frames _ hr', State.setFrames_setFrames, hr]
    rfl
  have hsame : U.sameButNew ({ U with heap := s₂.heap, slotsUsed := s₂.slotsUsed } : State) [] mc ms := by
    refine ⟨?_, q2, q3, q4, q5, q6⟩
    obtain ⟨t, ht, -⟩ := State.frames_cons hr
    show ({ U with heap := s₂.heap, slotsUsed := s₂.slotsUsed } : State) = { U.setFrames U.frames with heap := s₂.heap, slotsUsed := s₂.slotsUsed }
    rw [State.setFrames_self ht]
  subst hg
  have hXs := X.same.trans (hsame.setVm s.vm)
  rw [List.append_nil] at hXs
  refine ⟨x, ({ U with heap := s₂.heap, slotsUsed := s₂.slotsUsed } : State).setVm s₂.vm,
    ⟨X.admits, X.cas, X.clock, X.frames, X.room, X.hears, X.method, X.code, (X.here.setHeapUsed s₂.heap s₂.slotsUsed).setVm hW'.alike, X.tail, State.WarmedH.trans X.warmed hW', X.limits, X.bytes, hXs⟩,
    ⟨ce, c1, c2, c3⟩, fun q hq => ?_, q2, ?_⟩
  · show s₂.heap[q]? = U.heap[q]?
    have hcell : U.heap[q]? = some U.heap[q] := Array.getElem?_eq_getElem hq
    rw [hcell]
    exact hsame.old_cell hcell
  · rw [← hs₂]
    exact hsteps
end XT3
section XT4
variable {p : Program} {l : Launch} {e : Env} {R : Room} {s : State} {m : MethodId} {args : Array Value} {below : List Frame} {meth : Method} {c : Code} {H : Heap} {locs : List Loc} {cells slots : Nat} {cc : ByteArray} {pc : Nat} {ls : Array Slot} {rest : List Value}
/-- a run of a call that throws -/
def xRun (p : Program) (l : Launch) (e : Env) (R : Room) (s : State) (m : MethodId) (args : Array Value) (below : List Frame) (meth : Method) (c : Code) (H : Heap) (locs : List Loc) (cells slots mc ms : Nat) (cls : String) (g : JFrame) (rest : List Value) : Prop :=
  ∀ T : State, T.heap = H → Stand p l e R s m args below meth c T locs cells slots → ∃ (x : Addr) (T' : State), Stand p l e R s m args below meth c T' locs (cells + mc) (slots + ms) ∧ (∃ ce, T'.heap[x]? = some ce ∧ s.vm.findClass cls = some ce.cls ∧ ce.vm = .none) ∧ (∀ q, q < H.size → T'.heap[q]? = H[q]?) ∧ H.size ≤ T'.heap.size ∧
    ∀ target, Steps p.tables e below ((T'.setTop { g with stack := rest }).pushFrame (.throwing x)) target → Steps p.tables e below (T.setTop g) target
theorem xt_runS {own : String} {nL : Nat} (F : CallFix p m c cc nL s args gw own) (hT : evT s) {y : MethodName} {b : ByteArray} {nY : Nat} {ret : Option FieldType} {rm : Room} {Pc : Array Value → State → Prop} {cls : String} {mc ms : Nat} {As : List Value} (hM : TMet l y b nY ret rm Pc cls mc ms) (hp : PreS s H Pc As) {index : Nat} (h1 : Cond.methodLink own index y ∈ gw) (h2 : Cond.static y ∈ gw) (h4 : Cond.initialized y.cls ∈ gw) (h5 : Cond.code y b nY ret ∈ gw) (hd : ckN y As.length) (hR : rm.frames + 1 ≤ R.frames ∧ 8 + (nY + 11) + rm.locals ≤ R.locals) (hf : cells + rm.cells ≤ R.cells ∧ slots + rm.slots ≤ R.slots) (hsz : ls.size = nL) {st0 : List Value} (hst : st0 = As.reverse ++ rest) (hw : (rest.map fun v => v.category).sum ≤ 8) (hdg : decode cc pc = .ok (.invokestatic index, 3)) :
    xRun p l e R s m args below meth c H locs cells slots mc ms cls (F0 m pc ls st0) rest := by
  intro T hT' X
  obtain ⟨hx, hb, hml, ho, -⟩ := F
  have hcode := hT.1 _ h5 args
  obtain ⟨mk, hnamed⟩ := Cond.code_named hcode
  obtain ⟨methM, cM, hmethM, -, -, -, -, -, -, hsigM⟩ := Cond.code_spec hnamed hcode
  have hstatic : methM.isStatic = true := Cond.static_spec hnamed hmethM (hT.1 _ h2 args)
  obtain ⟨kP, hkP, -⟩ := className_of_methodNamed hnamed
  have hinitP : kP.init = .initialized := Cond.initialized_spec (findClass_of_methodNamed hnamed) hkP (hT.1 _ h4 args)
  have hlen : As.length = methM.sig.parameters.length := by
    have h2 := hd.2.2
    rw [hsigM] at h2
    exact (Option.some.inj h2).symm
  obtain ⟨vm₁, X₁, hstep₁⟩ := X.invokestatic hx ho (hT.1 _ h1 args) hnamed hmethM hstatic hkP hinitP ⟨hd.1, hd.2.1⟩ (g := F0 m pc ls st0) rfl (argsL := As) (rest := rest) hlen hst (by rw [hb]; exact hdg)
  have hT1 : evT (T.setVm vm₁) := hT.warm X₁.warmed
  obtain ⟨x, T', X', hce, hold, hle, hsteps⟩ := xt_back hM hp.1 X₁ (g := { F0 m pc ls st0 with stack := rest }) (ig := .invokestatic index) (len := 3) (mk := mk) (a := As.toArray) rfl (hsz.trans hml.symm) (by rw [hb]; exact hdg) (X₁.named hnamed) (hT1.1 _ h5 _) (hT1.1 _ h4 _) (hp.2 _ hT' X₁.warmed) hR.1 hR.2 (lv_room (pc := pc) (ls := ls) hw) hf.1 hf.2
  obtain ⟨ce, c1, c2, c3⟩ := hce
  have hh : (T.setVm vm₁).heap = H := hT'
  rw [hh] at hold hle
  refine ⟨x, T', X', ⟨ce, c1, ?_, c3⟩, hold, hle, fun target h => hstep₁ _ fun acts => by rw [doInvoke_state]; exact hsteps.trans h⟩
  rw [← X₁.warmed.alike.findClass]
  exact c2
theorem xt_runV {own : String} {nL : Nat} (F : CallFix p m c cc nL s args gw own) (hT : evT s) {y : MethodName} {b : ByteArray} {nY : Nat} {ret : Option FieldType} {rm : Room} {Pc : Array Value → State → Prop} {cls : String} {mc ms : Nat} {a : Nat} {As : List Value} (hM : TMet l y b nY ret rm Pc cls mc ms) (hp : PreV s H y.cls a Pc As) {index : Nat} (h1 : Cond.methodLink own index y ∈ gw) (h2 : Cond.instanceMethod y ∈ gw) (h3 : Cond.selects y.cls y y ∈ gw) (h4 : Cond.initialized y.cls ∈ gw) (h5 : Cond.code y b nY ret ∈ gw) (hd : ckN y As.length) (hR : rm.frames + 1 ≤ R.frames ∧ 8 + (nY + 11) + rm.locals ≤ R.locals) (hf : cells + rm.cells ≤ R.cells ∧ slots + rm.slots ≤ R.slots) (hsz : ls.size = nL) {st0 : List Value} (hst : st0 = As.reverse ++ .ref a :: rest) (hw : (rest.map fun v => v.category).sum ≤ 8) (hdg : decode cc pc = .ok (.invokevirtual index, 3)) :
    xRun p l e R s m args below meth c H locs cells slots mc ms cls (F0 m pc ls st0) rest := by
  intro T hT' X
  obtain ⟨hx, hb, hml, ho, -⟩ := F
  have hcode := hT.1 _ h5 args
  obtain ⟨hbl, ⟨cellB, hcB, hoB, hclB⟩, hPc⟩ := hp
  obtain ⟨mk, methM, hnamed, hmethM, hstM, habM⟩ := Cond.instanceMethod_spec (hT.1 _ h2 args)
  obtain ⟨methM', cM, hmethM', -, -, -, -, -, -, hsigM⟩ := Cond.code_spec hnamed hcode
  cases hmethM.symm.trans hmethM'
  obtain ⟨c2, r2, m2, q1, q2, q3, q4, kP, hkP, hkPi⟩ := Cond.selects_spec (hT.1 _ h3 args)
  cases hclB.symm.trans q1
  cases (State.methodFound?_of_named hnamed ⟨hd.1, hd.2.1⟩).symm.trans q2
  cases hnamed.symm.trans q3
  have hselP : selectMethod e.platform s.vm cellB.cls mk = .method mk := by rw [Launch.admits_selectMethod X.admits]; exact q4
  have hlen : As.length = methM.sig.parameters.length := by
    have h2 := hd.2.2
    rw [hsigM] at h2
    exact (Option.some.inj h2).symm
  obtain ⟨vm₁, X₁, hstep₁⟩ := X.invokevirtual hx ho (hT.1 _ h1 args) hnamed hmethM hstM hkP hkPi ⟨hd.1, hd.2.1⟩ (a := a) (cell := cellB) (by rw [hT']; exact hcB)
    (fun z h => by rw [h] at hoB; cases hoB) hselP hmethM habM hkP hkPi (g := F0 m pc ls st0) rfl (argsL := As) (rest := rest) hlen hst (by rw [hb]; exact hdg)
  have hT1 : evT (T.setVm vm₁) := hT.warm X₁.warmed
  obtain ⟨x, T', X', hce, hold, hle, hsteps⟩ := xt_back hM hbl X₁ (g := { F0 m pc ls st0 with stack := rest }) (ig := .invokevirtual index) (len := 3) (mk := mk) (a := (Value.ref a :: As).toArray) rfl (hsz.trans hml.symm) (by rw [hb]; exact hdg) (X₁.named hnamed) (hT1.1 _ h5 _) (hT1.1 _ h4 _) (hPc _ hT' X₁.warmed) hR.1 hR.2 (lv_room (pc := pc) (ls := ls) hw) hf.1 hf.2
  obtain ⟨ce, c1, c2, c3⟩ := hce
  have hh : (T.setVm vm₁).heap = H := hT'
  rw [hh] at hold hle
  refine ⟨x, T', X', ⟨ce, c1, ?_, c3⟩, hold, hle, fun target h => hstep₁ _ fun acts => by rw [doInvoke_state]; exact hsteps.trans h⟩
  rw [← X₁.warmed.alike.findClass]
  exact c2
/-- the caller has no handler: it throws on -/
theorem xt_out {cls : String} {mc ms : Nat} {st0 : List Value} (hr : xRun p l e R s m args below meth c s.heap [] 0 0 mc ms cls (F0 m pc ls st0) rest) (hout : c.exceptionTable.isEmpty = true) (hlk : meth.locks = false) : W p l e R s m args below meth c s.heap [] 0 0 (TQ below cls s mc ms) (F0 m pc ls st0) := by
  intro T hT X
  obtain ⟨x, T', X', ⟨ce, c1, c2, c3⟩, -, -, st⟩ := hr T hT X
  obtain ⟨l1, l2, l3, l4, l5⟩ := X'.leaveThrown x (g := { F0 m pc ls st0 with stack := rest }) rfl rfl rfl (covers_of_empty hout _) hlk
  rw [Nat.zero_add, Nat.zero_add] at l5
  exact ⟨_, st _ l1, x, l2, l3, ⟨ce, c1, c2, c3⟩, l4, l5⟩
end XT4
/-! the search through a table whose classes are linked, resolved or not -/
section XF
variable {E : CtlPost} {e : Env} {d : Bool} {acts : List Action} {s : State} {f : JFrame} {a : Addr} {Q : Handler → Pre}
theorem go_links {x : ExceptionTableEntry} {t : List ExceptionTableEntry} {c : ClassId} {cell : Cell} {vm' : Vm} (hx : covers x f.pc = true) (h0 : x.catchType ≠ 0)
    (hg : (Jvm.resolveClass f.method.cls x.catchType).Gives e.toSetting s.vm (.ok c) vm') (hcell : s.heap[a]? = some cell) (hobj : ∀ k, cell.vm ≠ .statics k)
    (hk : ∃ k, vm'.classes[cell.cls]? = some k) (hc : ∃ k, vm'.classes[c]? = some k) (hsz : vm'.classes.size ≤ s.vm.classes.size) :
    wp (findHandler.go f a (x :: t)) Q E e d acts s ↔
      if vm'.assignable cell.cls c = true then Q (.found x.handlerPc) d acts (s.setVm vm') else wp (findHandler.go f a t) Q E e d acts (s.setVm vm') := by
  simp only [covers] at hx
  obtain ⟨ha, ht⟩ := hg.op (op := VmOp.resolveClass f.method.cls x.catchType) rfl
  have hcell' : (s.setVm vm').heap[a]? = some cell := hcell
  have hk' : ∃ k, (s.setVm vm').vm.classes[cell.cls]? = some k := hk
  have hc' : ∃ k, (s.setVm vm').vm.classes[c]? = some k := hc
  cases hfit : vm'.assignable cell.cls c <;>
    simp [findHandler.go, hx, h0, ha, ht, hsz, hcell, hobj, hk, hc, hfit, VmOp.dirties, VmOp.acts]
end XF
/-- the search ends in h, and leaves the tables vm' -/
def FindsV (e : Env) (s : State) (f : JFrame) (a : Addr) (h : Handler) (vm' : Vm) : Prop :=
  ∀ (Q : Handler → Pre) (E : CtlPost) (d : Bool) (acts : List Action), wp (findHandler f a) Q E e d acts s ↔ Q h d acts (s.setVm vm')
theorem stepThrowing_catchV {e : Env} {s : State} {a : Addr} {f : JFrame} {r : List Frame} {pc : Nat} {vm' : Vm} (hfind : FindsV e s f a (.found pc) vm') :
    (stepThrowing e s a (.java f :: r)).Is ((s.setVm vm').setFrames (.java { f with pc := pc, stack := [.ref a] } :: r)) [] := by
  simp only [stepThrowing, searchFrame, vmDo]
  generalize hr : Sem.go _ e false [] s = res
  obtain ⟨as, rfl, ha⟩ := Sem.eq_ok_of hr (a := Handler.found pc) (s' := s.setVm vm') (acts' := []) (by simp [hfind _ _ _ _])
  exact ⟨rfl, ha⟩
theorem steps_caughtV {tb : Tables} {e : Env} {s target : State} {g : JFrame} {c : Code} {below : List Frame} {a : Addr} (h : At s g.method c below) {pc : Nat} {vm' : Vm} (hfind : FindsV e ((s.setTop g).pushFrame (.throwing a)) g a (.found pc) vm')
    (hrest : Steps tb e below ((s.setVm vm').setTop { g with pc := pc, stack := [.ref a] }) target) :
    Steps tb e below ((s.setTop g).pushFrame (.throwing a)) target := by
  obtain ⟨hgo, hw⟩ := h.throwing a
  refine Steps.head hgo hw ?_
  rw [stepThread_throwing (frames_entered h.top _), (stepThrowing_catchV (s := (s.setTop g).pushFrame (.throwing a)) hfind).1]
  obtain ⟨g₀, hg⟩ := Option.isSome_iff_exists.mp h.top
  obtain ⟨r, hr⟩ := State.topJava?_eq_some.mp hg
  have hr' : (s.setVm vm').frames = .java g₀ :: r := hr
  rw [State.setTop_of_frames _ hr'] at hrest
  rw [State.pushFrame, State.setTop_of_frames _ hr, State.setFrames_setFrames]
  rw [hr]
  have hsw : ∀ A B : List Frame, ((s.setFrames A).setVm vm').setFrames B = (s.setVm vm').setFrames B := fun A B => by
    show ((s.setVm vm').setFrames A).setFrames B = _
    rw [State.setFrames_setFrames]
  rw [hsw]
  exact hrest
section XT5
variable {p : Program} {l : Launch} {e : Env} {R : Room} {s : State} {m : MethodId} {args : Array Value} {below : List Frame} {meth : Method} {c : Code} {H : Heap} {locs : List Loc} {cells slots : Nat} {cc : ByteArray} {pc : Nat} {ls : Array Slot} {rest : List Value} {Q : State → Prop}
/-- a linked class of the table, at any later state: what the search needs of it -/
theorem ck_entry {own C : String} {index : Nat} {T : State} (X : Stand p l e R s m args below meth c T locs cells slots) (hown : s.vm.findClass own = some m.cls) (hlink : (Cond.classLink own index C).before args s = true) :
    ∃ (cC : ClassId) (vm' : Vm), s.vm.findClass C = some cC ∧ (Jvm.resolveClass m.cls index).Gives e.toSetting T.vm (.ok cC) vm' ∧ s.WarmedH vm' ∧ vm'.classes.size ≤ T.vm.classes.size := by
  have hpl : e.platform.magicAccessors = ({} : Platform).magicAccessors := by rw [X.admits.platform]
  obtain ⟨cC, hfc, hcl⟩ := Cond.classLink_spec hown hlink e.platform hpl
  obtain ⟨hg₁, hwarm₁, -⟩ := State.classEntry (e := e) X.warmed hcl
  exact ⟨cC, _, hfc, hg₁, hwarm₁, by no_record⟩
theorem alike_cls {vm vm' : Vm} (h : vm.Alike vm') {i : Nat} (hk : ∃ k, vm.classes[i]? = some k) : ∃ k, vm'.classes[i]? = some k := by
  obtain ⟨k, hk⟩ := hk
  obtain ⟨k', hk', -⟩ := h.2.2 _ _ hk
  exact ⟨k', hk'⟩
/-- the first class of the table takes the exception -/
theorem xt_catch1 {own : String} (hown : s.vm.findClass own = some m.cls) {cls C1 : String} {mc ms i1 h1 st en : Nat} {r : List (Nat × Nat × Nat × Nat)} {st0 : List Value} (hr : xRun p l e R s m args below meth c H locs cells slots mc ms cls (F0 m pc ls st0) rest)
    (htab : c.exceptionTable.toList.map (fun h => (h.startPc, h.endPc, h.handlerPc, h.catchType)) = (st, en, h1, i1) :: r) (hcov : (decide (st ≤ pc) && decide (pc < en)) = true) (hi1 : i1 ≠ 0) (hlink : (Cond.classLink own i1 C1).before args s = true) (hcast : (Cond.castable cls C1).before args s = true)
    (kk : ∀ (x : Nat) (H1 : Heap), (∀ q, q < H.size → H1[q]? = H[q]?) → H.size ≤ H1.size → W p l e R s m args below meth c H1 locs (cells + mc) (slots + ms) Q (F0 m h1 ls [.ref x])) : W p l e R s m args below meth c H locs cells slots Q (F0 m pc ls st0) := by
  intro T hT X
  obtain ⟨x, T', X', ⟨ce, c1, c2, c3⟩, hold, hle, stp⟩ := hr T hT X
  obtain ⟨cC, vm', hfc, hg, hW, hsz⟩ := ck_entry X' hown hlink
  obtain ⟨t, a1, b1⟩ := kk x T'.heap hold hle (T'.setVm vm') rfl (X'.noted hW)
  refine ⟨t, stp t (steps_caughtV (c := c) (by exact X'.here) (pc := h1) (vm' := vm') ?_ a1), b1⟩
  obtain ⟨E1, Er, hsp, he1, -⟩ := List.map_eq_cons_iff.mp htab
  simp only [Prod.mk.injEq] at he1
  obtain ⟨e1, e2, e3, e4⟩ := he1
  obtain ⟨d1, d2, f1, f2, f3⟩ := Cond.castable_spec hcast
  cases Option.some.inj (f1.symm.trans c2)
  cases Option.some.inj (f2.symm.trans hfc)
  intro Q' E d acts
  rw [W.findHandler_eq (meth := meth) (code := c) (by show T'.vm.method? m = some meth; exact X'.method') X'.code, hsp]
  refine (go_links (f := { F0 m pc ls st0 with stack := rest }) (s := (T'.setTop { F0 m pc ls st0 with stack := rest }).pushFrame (.throwing x)) (c := cC) (cell := ce) (vm' := vm') (by show (decide (E1.startPc ≤ pc) && decide (pc < E1.endPc)) = true; rw [e1, e2]; exact hcov) (by rw [e4]; exact hi1) (by rw [e4]; exact hg) c1 (by rw [c3]; exact fun k h => by cases h) (alike_cls hW.alike (Vm.classAt_of_findClass c2)) (alike_cls hW.alike (Vm.classAt_of_findClass hfc)) hsz).trans ?_
  rw [if_pos (by rw [hW.alike.assignable]; exact f3), e3]
/-- the first class doesn't take it, the second does -/
theorem xt_catch2 {own : String} (hown : s.vm.findClass own = some m.cls) {cls C1 C2 : String} {mc ms i1 h1 st en i2 h2 st2 en2 : Nat} {r : List (Nat × Nat × Nat × Nat)} {st0 : List Value} (hr : xRun p l e R s m args below meth c H locs cells slots mc ms cls (F0 m pc ls st0) rest)
    (htab : c.exceptionTable.toList.map (fun h => (h.startPc, h.endPc, h.handlerPc, h.catchType)) = (st, en, h1, i1) :: (st2, en2, h2, i2) :: r) (hcov : (decide (st ≤ pc) && decide (pc < en)) = true) (hi1 : i1 ≠ 0) (hlink : (Cond.classLink own i1 C1).before args s = true) (hno : ncst cls C1 s)
    (hcov2 : (decide (st2 ≤ pc) && decide (pc < en2)) = true) (hi2 : i2 ≠ 0) (hlink2 : (Cond.classLink own i2 C2).before args s = true) (hcast : (Cond.castable cls C2).before args s = true)
    (kk : ∀ (x : Nat) (H1 : Heap), (∀ q, q < H.size → H1[q]? = H[q]?) → H.size ≤ H1.size → W p l e R s m args below meth c H1 locs (cells + mc) (slots + ms) Q (F0 m h2 ls [.ref x])) : W p l e R s m args below meth c H locs cells slots Q (F0 m pc ls st0) := by
  intro T hT X
  obtain ⟨x, T', X', ⟨ce, c1, c2, c3⟩, hold, hle, stp⟩ := hr T hT X
  obtain ⟨cC, vm', hfc, hg, hW, hsz⟩ := ck_entry X' hown hlink
  obtain ⟨cC2, vm2, hfc2, hg2, hW2, hsz2⟩ := ck_entry (X'.noted hW) hown hlink2
  obtain ⟨t, a1, b1⟩ := kk x T'.heap hold hle ((T'.setVm vm').setVm vm2) rfl ((X'.noted hW).noted hW2)
  have hsv : (T'.setVm vm').setVm vm2 = T'.setVm vm2 := rfl
  rw [hsv] at a1
  refine ⟨t, stp t (steps_caughtV (c := c) (by exact X'.here) (pc := h2) (vm' := vm2) ?_ a1), b1⟩
  obtain ⟨E1, Er, hsp, he1, htab2⟩ := List.map_eq_cons_iff.mp htab
  simp only [Prod.mk.injEq] at he1
  obtain ⟨e1, e2, e3, e4⟩ := he1
  obtain ⟨E2, Er2, hsp2, he2, -⟩ := List.map_eq_cons_iff.mp htab2
  simp only [Prod.mk.injEq] at he2
  obtain ⟨k1, k2, k3, k4⟩ := he2
  obtain ⟨d1, d2, f1, f2, f3⟩ := Cond.castable_spec hcast
  cases Option.some.inj (f1.symm.trans c2)
  cases Option.some.inj (f2.symm.trans hfc2)
  have hnot : s.vm.assignable ce.cls cC = false := by
    obtain ⟨z1, z2, g1, g2, g3⟩ := hno
    cases Option.some.inj (g1.symm.trans c2)
    cases Option.some.inj (g2.symm.trans hfc)
    exact g3
  intro Q' E d acts
  rw [W.findHandler_eq (meth := meth) (code := c) (by show T'.vm.method? m = some meth; exact X'.method') X'.code, hsp]
  refine (go_links (f := { F0 m pc ls st0 with stack := rest }) (s := (T'.setTop { F0 m pc ls st0 with stack := rest }).pushFrame (.throwing x)) (c := cC) (cell := ce) (vm' := vm') (by show (decide (E1.startPc ≤ pc) && decide (pc < E1.endPc)) = true; rw [e1, e2]; exact hcov) (by rw [e4]; exact hi1) (by rw [e4]; exact hg) c1 (by rw [c3]; exact fun k h => by cases h) (alike_cls hW.alike (Vm.classAt_of_findClass c2)) (alike_cls hW.alike (Vm.classAt_of_findClass hfc)) hsz).trans ?_
  rw [if_neg (by rw [hW.alike.assignable, hnot]; decide), hsp2]
  refine (go_links (f := { F0 m pc ls st0 with stack := rest }) (s := ((T'.setTop { F0 m pc ls st0 with stack := rest }).pushFrame (.throwing x)).setVm vm') (c := cC2) (cell := ce) (vm' := vm2) (by show (decide (E2.startPc ≤ pc) && decide (pc < E2.endPc)) = true; rw [k1, k2]; exact hcov2) (by rw [k4]; exact hi2) (by rw [k4]; exact hg2) c1 (by rw [c3]; exact fun k h => by cases h) (alike_cls hW2.alike (Vm.classAt_of_findClass c2)) (alike_cls hW2.alike (Vm.classAt_of_findClass hfc2)) hsz2).trans ?_
  rw [if_pos (by rw [hW2.alike.assignable]; exact f3), k3]
  exact Iff.rfl
end XT5
