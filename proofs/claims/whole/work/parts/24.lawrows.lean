/-! ===== the law's helpers: a desk's world, and the array of one long that takes the answer ===== -/
abbrev oCell (ao : Nat) (cL : ClassId) (o : Nat → Int64) : va_W := [(ao, .inl (cL, 1, .inr (.inl o)))]
abbrev ty4 (c3 : ClassId × ClassId × ClassId) (cL : ClassId) : List (ClassId × FieldType) := ty3 c3 ++ [(cL, .long)]
theorem ty4_3 {G : va_G} {c3 : ClassId × ClassId × ClassId} {cL : ClassId} {U : State} (h : va_K G kl (ty4 c3 cL) U) : va_K G kl (ty3 c3) U := h.sub [0, 1, 2] rfl
def okL (N : Nat) (G : va_G) (c3 : ClassId × ClassId × ClassId) (cL : ClassId) (ad : Nat → Nat) (ao : Nat) (M : Mem) (o : Nat → Int64) (U : State) : Prop := evT U ∧ va_K G kl (ty4 c3 cL) U ∧ va_P G kl (wd SX c3 ad M) U.heap ∧ va_P G kl (oCell ao cL o) U.heap ∧ evX N U
theorem okL.blind {N : Nat} {G : va_G} {c3 : ClassId × ClassId × ClassId} {cL : ClassId} {ad : Nat → Nat} {ao : Nat} {M : Mem} {o : Nat → Int64} {As : List Value} : FrameBlind (va_Pc As (okL N G c3 cL ad ao M o)) :=
  fun a U g mk h => ⟨h.1, h.2.1.calling, va_K.moved (u := U) (U := U.calling g mk a) (Vm.Alike.refl U.vm) h.2.2.1, h.2.2.2.1, h.2.2.2.2.1, h.2.2.2.2.2.calling⟩
def aL (ad : Nat → Nat) (ao : Nat) : Nat → Prop := fun q => adA SX ad q ∨ q = ao
def QL (G : va_G) (c3 : ClassId × ClassId × ClassId) (cL : ClassId) (ad : Nat → Nat) (ao : Nat) (k : Int32) (M' : Mem) (o' : Nat → Int64) : Array Value → State → Outcome → State → Prop := fun _ st oc t => oc = .returned (some (.int k)) ∧ va_P G kl (wd SX c3 ad M') t.heap ∧ va_P G kl (oCell ao cL o') t.heap ∧ va_F (aL ad ao) st t
def LMet (l : Launch) (y : MethodName) (b : ByteArray) (nL : Nat) (hh : List (Nat × Nat × Nat × Nat)) (rm : Room) (N : Nat) (G : va_G) (c3 : ClassId × ClassId × ClassId) (cL : ClassId) (ad : Nat → Nat) (ao : Nat) (M : Mem) (o : Nat → Int64) (As : List Value) (k : Int32) (M' : Mem) (o' : Nat → Int64) : Prop :=
  Met l y [.codeWith y b nL (some .int) hh] rm (va_Pc As (okL N G c3 cL ad ao M o)) (QL G c3 cL ad ao k M' o') 1 6 (aL ad ao)
/-- the table of handlers of the method that is walked -/
abbrev tabOf (c : Code) : List (Nat × Nat × Nat × Nat) := c.exceptionTable.toList.map (fun h => (h.startPc, h.endPc, h.handlerPc, h.catchType))
theorem LMet.of {l : Launch} {y : MethodName} {b : ByteArray} {nL : Nat} {hh : List (Nat × Nat × Nat × Nat)} {rm : Room} {N : Nat} {G : va_G} {c3 : ClassId × ClassId × ClassId} {cL : ClassId} {ad : Nat → Nat} {ao : Nat} {M M' : Mem} {o o' : Nat → Int64} {As : List Value} {k : Int32}
    (hy : plainName y.cls = true) (hn : (lg_sl As).length ≤ nL)
    (body : ∀ (p : Program) (e : Env) (s : State) (m : MethodId) (args : Array Value) (below : List Frame) (meth : Method) (c : Code) (ls : Array Slot), CallFix p m c b nL s args gw y.cls → evT s → va_K G kl (ty4 c3 cL) s → va_P G kl (wd SX c3 ad M) s.heap → va_P G kl (oCell ao cL o) s.heap → evX N s → meth.sig.returnType = some .int → meth.locks = false → tabOf c = hh → lv_has ls nL (lv_args 0 As) →
      W p l e rm s m args below meth c s.heap [] 0 0 (MQ below (QL G c3 cL ad ao k M' o') args s 1 6 (aL ad ao)) (F0 m 0 ls [])) : LMet l y b nL hh rm N G c3 cL ad ao M o As k M' o' := by
  refine va_MetW (cc := b) (maxL := nL) (ret := some .int) (hh := hh) hy rfl ?_
  intro p e s m args below meth c s₁ B hml hv
  obtain ⟨rfl, hT, hK, hP, hO, hX⟩ := hv
  have hl := lv_entry As (n := nL) hn
  obtain ⟨m9, meth9, c9, hn9, g1, g2, -, -, g5, -⟩ := Cond.codeWith_spec (atoms_spec (ws := [.codeWith y b nL (some .int) hh]) B.pre _ List.mem_cons_self)
  cases B.named.symm.trans hn9
  cases B.method.symm.trans g1
  cases (Stand.of_body B).code.symm.trans g2
  rw [lg_entry_eq]
  exact body p e s m _ below meth c _ ⟨B.exec, B.bytes, hml, findClass_of_methodNamed B.named, hT.hts _⟩ hT hK hP hO hX B.returns B.notSynchronized g5 hl
section XL
variable {p : Program} {l : Launch} {e : Env} {R : Room} {s : State} {m : MethodId} {args : Array Value} {below : List Frame} {meth : Method} {c : Code} {H : Heap} {locs : List Loc} {cells slots : Nat} {Q : State → Prop}
variable {cc : ByteArray} {pc : Nat} {ls : Array Slot} {rest : List Value} {G : va_G} {c3 : ClassId × ClassId × ClassId} {cL : ClassId} {ad : Nat → Nat} {ao : Nat} {M M' : Mem} {o : Nat → Int64} {A : Nat → Prop} {H0 : Heap}
theorem xo_D (hd : adI SX ad) (ha : ¬ adA SX ad ao) (hA : ∀ q, aL ad ao q → A q) : va_D A ((ao, .inl (cL, 1, .inr (.inl o))) :: wd SX c3 ad M) := by
  show va_D A (oCell ao cL o ++ wd SX c3 ad M)
  refine va_D.app ⟨fun i j x y hi hj _ => ?_, fun k q hk => ?_⟩ ((wd_D hd).weaken (fun k q hk h => hA _ (Or.inl h))) (fun i j x y hx hy e => ?_)
  · have h1 : i < 1 := (List.getElem?_eq_some_iff.mp hi).1
    have h2 : j < 1 := (List.getElem?_eq_some_iff.mp hj).1
    omega
  · have h1 : k < 1 := (List.getElem?_eq_some_iff.mp hk).1
    rw [show k = 0 by omega] at hk
    cases hk
    exact hA _ (Or.inr rfl)
  · have h1 : i < 1 := (List.getElem?_eq_some_iff.mp hx).1
    rw [show i = 0 by omega] at hx
    cases hx
    obtain ⟨h2, e2⟩ := wd_get hy
    exact ha ⟨j, h2, by rw [← e2]; exact e⟩
theorem xo_P (hP : va_P G kl (wd SX c3 ad M) H) (hO : va_P G kl (oCell ao cL o) H) : va_P G kl ((ao, .inl (cL, 1, .inr (.inl o))) :: wd SX c3 ad M) H := by
  intro k q hk
  cases k with
  | zero => exact hO 0 q hk
  | succ k => exact hP k q hk
theorem xo_last (hx : p.tables.exec = Jvm.exec) (hb : c.code = cc) (hd : adI SX ad) (ha : ¬ adA SX ad ao) (hA : ∀ q, aL ad ao q → A q) (hK : va_K G kl (ty4 c3 cL) s) (hP : va_P G kl (wd SX c3 ad M) H) (hO : va_P G kl (oCell ao cL o) H) (hS : va_S A H0 H locs) {x : Int64} (hdg : decode cc pc = .ok (.lastore, 1))
    (kk : ∀ (H1 : Heap) (locs1 : List Loc), va_P G kl (wd SX c3 ad M) H1 → va_P G kl (oCell ao cL (vp_updL o 0 x)) H1 → va_S A H0 H1 locs1 → W p l e R s m args below meth c H1 locs1 cells slots Q (F0 m (pc + 1) ls rest)) : W p l e R s m args below meth c H locs cells slots Q (F0 m pc ls (.long x :: .int 0 :: .ref ao :: rest)) := by
  refine va_last hx hb hK (xo_P hP hO) (xo_D hd ha hA) hS 0 3 rfl rfl (i := 0) (show ¬ ((0 : Int32) < 0 ∨ 1 ≤ (0 : Int32).toNatClampNeg) by decide) hdg (fun H1 locs1 h1 _ h3 => kk H1 locs1 (fun k q hk => h1 (k + 1) q hk) (fun k q hk => ?_) h3)
  have hk1 : k < 1 := (List.getElem?_eq_some_iff.mp hk).1
  rw [show k = 0 by omega] at hk
  exact h1 0 q hk
theorem xo_ret (hx : p.tables.exec = Jvm.exec) (hb : c.code = cc) (hr : meth.sig.returnType = some .int) (hlk : meth.locks = false) (hP : va_P G kl (wd SX c3 ad M) H) (hO : va_P G kl (oCell ao cL o) H) (hS : va_S (aL ad ao) s.heap H locs) (hc : cells ≤ 1 ∧ slots ≤ 6) {v : Int32} (hdg : decode cc pc = .ok (.ireturn, 1)) : W p l e R s m args below meth c H locs cells slots (MQ below (QL G c3 cL ad ao v M o) args s 1 6 (aL ad ao)) (F0 m pc ls [.int v]) := by
  refine W.widen (k := 1) (n := 6) hc.1 hc.2 ?_
  exact W.iret hx hb hr (fun t ht _ => ⟨rfl, by rw [ht]; exact hP, by rw [ht]; exact hO, hS.F ht⟩) hS.2.2 hdg hlk
/-- what is at an address that a heap keeps -/
theorem xo_keep {w : va_W} {H1 : Heap} (h : va_P G kl w H) (hk : ∀ (k : Nat) (q : Nat × va_E), w[k]? = some q → H1[q.1]? = H[q.1]?) : va_P G kl w H1 := h.kept hk
theorem xo_one {H1 : Heap} (hO : va_P G kl (oCell ao cL o) H) (h : H1[ao]? = H[ao]?) : va_P G kl (oCell ao cL o) H1 := hO.kept (fun k q hk => by
  have h1 : k < 1 := (List.getElem?_eq_some_iff.mp hk).1
  rw [show k = 0 by omega] at hk
  cases hk
  exact h)
theorem xo_lt (hO : va_P G kl (oCell ao cL o) H) : ao < H.size := (hO 0 _ rfl).lt
theorem xo_wd {H1 : Heap} (hP : va_P G kl (wd SX c3 ad M) H) (h : ∀ q, q < H.size → H1[q]? = H[q]?) : va_P G kl (wd SX c3 ad M) H1 := hP.kept (fun k q hk => h _ ((hP k q hk).lt))
/-- a call of a method that has handlers, invokestatic -/
theorem xl_runS {own : String} {nL : Nat} (F : CallFix p m c cc nL s args gw own) (hT : evT s) {y : MethodName} {b : ByteArray} {nY : Nat} {ret : Option FieldType} {hh : List (Nat × Nat × Nat × Nat)} {rm : Room} {Pc : Array Value → State → Prop} {Qc : Array Value → State → Outcome → State → Prop} {mc ms : Nat} {free : Addr → Prop} {As : List Value} (hM : Met l y [.codeWith y b nY ret hh] rm Pc Qc mc ms free) (hp : PreS s H Pc As) {index : Nat} (h1 : Cond.methodLink own index y ∈ gw) (h2 : Cond.static y ∈ gw) (h4 : Cond.initialized y.cls ∈ gw) (h5 : Cond.codeWith y b nY ret hh ∈ gw) (hd : ckN y As.length) (hm : rm.cells = mc ∧ rm.slots = ms) (hR : rm.frames + 1 ≤ R.frames ∧ 8 + (nY + 11) + rm.locals ≤ R.locals) (hf : cells + mc ≤ R.cells ∧ slots + ms ≤ R.slots) (hsz : ls.size = nL) {st0 : List Value} (hst : st0 = As.reverse ++ rest) (hw : (rest.map fun v => v.category).sum ≤ 8) (hdg : decode cc pc = .ok (.invokestatic index, 3)) :
    va_Run p l e R s m args below meth c H locs cells slots mc ms (F0 m pc ls st0) rest (Qc As.toArray) free := by
  have hK : Back l R p e below s args y 3 8 (PreOf R mc ms Pc) (PostOf Qc mc ms free) := va_backW (bytes := b) (maxL := nY) (ret := ret) (hh := hh) hM hp.1 hm.1 hm.2 hR.1 hR.2 (fun w hw' a' U hW => (hT.warm hW).1 w (by rw [List.mem_singleton.mp hw']; exact h5) a') List.mem_cons_self (fun a' U hW => (hT.warm hW).1 _ h4 a')
  obtain ⟨hx, hb, hml, ho, -⟩ := F
  intro T hT' X
  obtain ⟨mk, methM, cM, hnamed, hmethM, -, -, -, -, -, -, hsigM⟩ := Cond.codeWith_spec (hT.1 _ h5 args)
  have hstatic : methM.isStatic = true := Cond.static_spec hnamed hmethM (hT.1 _ h2 args)
  obtain ⟨kP, hkP, -⟩ := className_of_methodNamed hnamed
  have hinitP : kP.init = .initialized := Cond.initialized_spec (findClass_of_methodNamed hnamed) hkP (hT.1 _ h4 args)
  have hlen : As.length = methM.sig.parameters.length := by
    have h2 := hd.2.2
    rw [hsigM] at h2
    exact (Option.some.inj h2).symm
  obtain ⟨vm₁, X₁, hstep₁⟩ := X.invokestatic hx ho (hT.1 _ h1 args) hnamed hmethM hstatic hkP hinitP ⟨hd.1, hd.2.1⟩ (g := F0 m pc ls st0) rfl (argsL := As) (rest := rest) hlen hst (by rw [hb]; exact hdg)
  obtain ⟨v, ⟨U', l2, c2, s2⟩, X', ⟨g', mk', t, L, e1, e2, hq, q1, hL, q2, q3⟩, hsteps⟩ := hK m meth c ⟨T.setVm vm₁, locs, cells, slots⟩ { F0 m pc ls st0 with stack := rest } (.invokestatic index) mk As.toArray X₁ rfl (hsz.trans hml.symm) (by rw [hb]; exact hdg) (lv_room (pc := pc) (ls := ls) hw) (X₁.named hnamed) ⟨hf.1, hf.2, hp.2 (T.setVm vm₁) hT' X₁.warmed⟩
  dsimp only [Pt.U, Pt.locs, Pt.cells, Pt.slots] at X' e1 e2 q1 q2 q3 hsteps
  subst q1; subst q2; subst q3
  exact ⟨v, (T.setVm vm₁).calling g' mk' As.toArray, t, U', L, hT', X', hL, e1, e2, hq, fun target h => hstep₁ _ fun acts => by rw [doInvoke_state]; exact hsteps.trans h⟩
end XL
