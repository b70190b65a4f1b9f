/-! ===== methods that answer nothing and change nothing; a loop's edges ===== -/
def QcVoid : Array Value → State → Outcome → State → Prop := fun _ st o t => o = .returned none ∧ t.heap = st.heap
def VMet (l : Launch) (y : MethodName) (b : ByteArray) (nL : Nat) (ret : Option FieldType) (rm : Room) (G : va_G) (cl : List vw_C) (S : List Kd) (c3 : ClassId × ClassId × ClassId) (ad : Nat → Nat) (M : Mem) (As : List Value) : Prop :=
  Met l y [.code y b nL ret] rm (va_Pc As (okU G cl S c3 ad M)) QcVoid 0 0 (fun _ => False)
theorem VMet.of {l : Launch} {y : MethodName} {b : ByteArray} {nL : Nat} {ret : Option FieldType} {rm : Room} {G : va_G} {cl : List vw_C} {S : List Kd} {c3 : ClassId × ClassId × ClassId} {ad : Nat → Nat} {M : Mem} {As : List Value}
    (hy : plainName y.cls = true) (hn : (lg_sl As).length ≤ nL)
    (body : ∀ (p : Program) (e : Env) (s : State) (m : MethodId) (args : Array Value) (below : List Frame) (meth : Method) (c : Code) (ls : Array Slot), CallFix p m c b nL s args gw y.cls → evT s → va_K G cl (ty3 c3) s → va_P G cl (wd S c3 ad M) s.heap → meth.sig.returnType = ret → meth.locks = false → lv_has ls nL (lv_args 0 As) →
      W p l e rm s m args below meth c s.heap [] 0 0 (MQ below QcVoid args s 0 0 (fun _ => False)) (F0 m 0 ls [])) : VMet l y b nL ret rm G cl S c3 ad M As := by
  refine Met.ofW (cc := b) (maxL := nL) (ret := ret) hy rfl ?_
  intro p e s m args below meth c s₁ B hml hv
  obtain ⟨rfl, hT, hK, hP⟩ := hv
  have hl := lv_entry As (n := nL) hn
  rw [lg_entry_eq]
  exact body p e s m _ below meth c _ ⟨B.exec, B.bytes, hml, findClass_of_methodNamed B.named, hT.hts _⟩ hT hK hP B.returns B.notSynchronized hl
section XR2
variable {p : Program} {l : Launch} {e : Env} {R : Room} {s : State} {m : MethodId} {args : Array Value} {below : List Frame} {meth : Method} {c : Code} {H : Heap} {locs : List Loc} {cells slots : Nat} {Q : State → Prop}
variable {cc : ByteArray} {pc : Nat} {ls : Array Slot} {rest : List Value} {G : va_G} {cl : List vw_C} {S : List Kd} {c3 : ClassId × ClassId × ClassId} {ad : Nat → Nat} {M M' : Mem} {A : Nat → Prop} {H0 : Heap}
theorem xr_vret (hx : p.tables.exec = Jvm.exec) (hb : c.code = cc) (hr : meth.sig.returnType = none) (hlocks : meth.locks = false) (hdg : decode cc pc = .ok (.return_, 1)) : W p l e R s m args below meth c s.heap [] 0 0 (MQ below QcVoid args s 0 0 (fun _ => False)) (F0 m pc ls []) :=
  W.vret hx hb hr (fun t ht _ => ⟨rfl, ht⟩) (fun q h => by cases h) hdg hlocks
theorem xc_void {g : JFrame} {a : Array Value} (hr : CallRun p l e R s m args below meth c H locs cells slots 0 0 g rest (QcVoid a) (fun _ => False)) (kk : W p l e R s m args below meth c H locs cells slots Q { g with pc := g.pc + 3, stack := rest }) : W p l e R s m args below meth c H locs cells slots Q g := by
  intro T hT X
  obtain ⟨v, st₀, t, T', L, h0, X', hL, e1, ⟨hv, hh⟩, st⟩ := hr T hT X
  cases hv
  obtain ⟨t2, a1, b1⟩ := kk T' (by rw [e1, hh, h0]) (Stand.forget X' (fun q h => (hL q h).elim))
  exact ⟨t2, st t2 a1, b1⟩
theorem xc_vs {own : String} {nL : Nat} (F : CallFix p m c cc nL s args gw own) (hT : evT s) (hK : va_K G cl (ty3 c3) s) (hP : va_P G cl (wd S c3 ad M) H) {y : MethodName} {b : ByteArray} {nY : Nat} {ret : Option FieldType} {rm : Room} {As : List Value} (hM : VMet l y b nY ret rm G cl S c3 ad M As) {index : Nat} (h1 : Cond.methodLink own index y ∈ gw) (h2 : Cond.static y ∈ gw) (h4 : Cond.initialized y.cls ∈ gw) (h5 : Cond.code y b nY ret ∈ gw) (hd : ckN y As.length) (hm : rm.cells = 0 ∧ rm.slots = 0) (hR : rm.frames + 1 ≤ R.frames ∧ 8 + (nY + 11) + rm.locals ≤ R.locals) (hf : cells ≤ R.cells ∧ slots ≤ R.slots) (hsz : ls.size = nL) {st0 : List Value} (hst : st0 = As.reverse ++ rest) (hw : (rest.map fun v => v.category).sum ≤ 8) (hdg : decode cc pc = .ok (.invokestatic index, 3))
    (kk : W p l e R s m args below meth c H locs cells slots Q (F0 m (pc + 3) ls rest)) : W p l e R s m args below meth c H locs cells slots Q (F0 m pc ls st0) := by
  refine xc_void (W.runS (n := As.length) (As := As) (rest := rest) F hM ⟨mkB hT h1 h4 h5 hd hm hR, hT.1 _ h2 _⟩ ⟨okU.blind, okU.at hT hK hP _⟩ rfl rfl hsz hst (lv_room hw) hdg hf) kk
end XR2
theorem xwh_0 {σ ρ : Type} {b : σ → Option (ρ ⊕ σ)} {s : σ} {r : ρ} {P : Prop} (h : xwh b 0 s = some r) : P := by cases h
theorem xw_exit {σ ρ : Type} {b : σ → Option (ρ ⊕ σ)} {n : Nat} {o : ρ ⊕ σ} {X r : ρ} (hf : some (Sum.inl X) = some o) (hn : Sum.elim (fun r' => some r') (fun s' => xwh b n s') o = some r) : X = r := by
  cases hf
  exact Option.some.inj hn
theorem xw_again {σ ρ : Type} {b : σ → Option (ρ ⊕ σ)} {n : Nat} {o : ρ ⊕ σ} {s' : σ} {r : ρ} (hf : some (Sum.inr s') = some o) (hn : Sum.elim (fun r' => some r') (fun s' => xwh b n s') o = some r) : xwh b n s' = some r := by
  cases hf
  exact hn
theorem no_some {α : Type} {r : α} {P : Prop} (h : (none : Option α) = some r) : P := by cases h
