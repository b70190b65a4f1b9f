/-! ===== rows over a memory ===== -/
def okU (G : va_G) (cl : List vw_C) (S : List Kd) (c3 : ClassId × ClassId × ClassId) (ad : Nat → Nat) (M : Mem) (U : State) : Prop := evT U ∧ va_K G cl (ty3 c3) U ∧ va_P G cl (wd S c3 ad M) U.heap
theorem okU.blind {G : va_G} {cl : List vw_C} {S : List Kd} {c3 : ClassId × ClassId × ClassId} {ad : Nat → Nat} {M : Mem} {As : List Value} : FrameBlind (va_Pc As (okU G cl S c3 ad M)) :=
  fun a U g mk h => ⟨h.1, h.2.1.calling, va_K.moved (u := U) (U := U.calling g mk a) (Vm.Alike.refl U.vm) h.2.2.1, h.2.2.2⟩
def QW (G : va_G) (cl : List vw_C) (S : List Kd) (c3 : ClassId × ClassId × ClassId) (ad : Nat → Nat) (v : Option Value) (M' : Mem) : Array Value → State → Outcome → State → Prop := fun _ st o t => o = .returned v ∧ va_P G cl (wd S c3 ad M') t.heap ∧ va_F (adA S ad) st t
def RMet (l : Launch) (y : MethodName) (b : ByteArray) (nL : Nat) (ret : Option FieldType) (rm : Room) (G : va_G) (cl : List vw_C) (S : List Kd) (c3 : ClassId × ClassId × ClassId) (ad : Nat → Nat) (M : Mem) (As : List Value) (v : Int32) : Prop :=
  Met l y [.code y b nL ret] rm (va_Pc As (okU G cl S c3 ad M)) (QcRead v) 0 0 (fun _ => False)
def WMet (l : Launch) (y : MethodName) (b : ByteArray) (nL : Nat) (ret : Option FieldType) (rm : Room) (G : va_G) (cl : List vw_C) (S : List Kd) (c3 : ClassId × ClassId × ClassId) (ad : Nat → Nat) (M : Mem) (As : List Value) (v : Option Value) (M' : Mem) : Prop :=
  Met l y [.code y b nL ret] rm (va_Pc As (okU G cl S c3 ad M)) (QW G cl S c3 ad v M') 0 0 (adA S ad)
abbrev rm0_ (f n : Nat) : Room := { frames := f, cells := 0, slots := 0, locals := n }
theorem RMet.of {l : Launch} {y : MethodName} {b : ByteArray} {nL : Nat} {ret : Option FieldType} {rm : Room} {G : va_G} {cl : List vw_C} {S : List Kd} {c3 : ClassId × ClassId × ClassId} {ad : Nat → Nat} {M : Mem} {As : List Value} {v : Int32}
    (hy : plainName y.cls = true) (hn : (lg_sl As).length ≤ nL)
    (body : ∀ (p : Program) (e : Env) (s : State) (m : MethodId) (args : Array Value) (below : List Frame) (meth : Method) (c : Code) (ls : Array Slot), CallFix p m c b nL s args gw y.cls → evT s → va_K G cl (ty3 c3) s → va_P G cl (wd S c3 ad M) s.heap → meth.sig.returnType = ret → meth.locks = false → lv_has ls nL (lv_args 0 As) →
      W p l e rm s m args below meth c s.heap [] 0 0 (MQ below (QcRead v) args s 0 0 (fun _ => False)) (F0 m 0 ls [])) : RMet l y b nL ret rm G cl S c3 ad M As v := by
  refine Met.ofW (cc := b) (maxL := nL) (ret := ret) hy rfl ?_
  intro p e s m args below meth c s₁ B hml hv
  obtain ⟨rfl, hT, hK, hP⟩ := hv
  have hl := lv_entry As (n := nL) hn
  rw [lg_entry_eq]
  exact body p e s m _ below meth c _ ⟨B.exec, B.bytes, hml, findClass_of_methodNamed B.named, hT.hts _⟩ hT hK hP B.returns B.notSynchronized hl
theorem WMet.of {l : Launch} {y : MethodName} {b : ByteArray} {nL : Nat} {ret : Option FieldType} {rm : Room} {G : va_G} {cl : List vw_C} {S : List Kd} {c3 : ClassId × ClassId × ClassId} {ad : Nat → Nat} {M M' : Mem} {As : List Value} {v : Option Value}
    (hy : plainName y.cls = true) (hn : (lg_sl As).length ≤ nL)
    (body : ∀ (p : Program) (e : Env) (s : State) (m : MethodId) (args : Array Value) (below : List Frame) (meth : Method) (c : Code) (ls : Array Slot), CallFix p m c b nL s args gw y.cls → evT s → va_K G cl (ty3 c3) s → va_P G cl (wd S c3 ad M) s.heap → meth.sig.returnType = ret → meth.locks = false → lv_has ls nL (lv_args 0 As) → va_S (adA S ad) s.heap s.heap [] →
      W p l e rm s m args below meth c s.heap [] 0 0 (MQ below (QW G cl S c3 ad v M') args s 0 0 (adA S ad)) (F0 m 0 ls [])) : WMet l y b nL ret rm G cl S c3 ad M As v M' := by
  refine Met.ofW (cc := b) (maxL := nL) (ret := ret) hy rfl ?_
  intro p e s m args below meth c s₁ B hml hv
  obtain ⟨rfl, hT, hK, hP⟩ := hv
  have hl := lv_entry As (n := nL) hn
  rw [lg_entry_eq]
  exact body p e s m _ below meth c _ ⟨B.exec, B.bytes, hml, findClass_of_methodNamed B.named, hT.hts _⟩ hT hK hP B.returns B.notSynchronized hl va_S.rf
section XR
variable {p : Program} {l : Launch} {e : Env} {R : Room} {s : State} {m : MethodId} {args : Array Value} {below : List Frame} {meth : Method} {c : Code} {H : Heap} {locs : List Loc} {cells slots : Nat} {Q : State → Prop}
variable {cc : ByteArray} {pc : Nat} {ls : Array Slot} {rest : List Value} {G : va_G} {cl : List vw_C} {S : List Kd} {c3 : ClassId × ClassId × ClassId} {ad : Nat → Nat} {M M' : Mem} {A : Nat → Prop} {H0 : Heap}
theorem xr_name {x v : Int32} (h : x = v) (k : W p l e R s m args below meth c H locs cells slots Q (F0 m pc ls (.int v :: rest))) : W p l e R s m args below meth c H locs cells slots Q (F0 m pc ls (.int x :: rest)) := h ▸ k
theorem xr_iald (hx : p.tables.exec = Jvm.exec) (hb : c.code = cc) (hK : va_K G cl (ty3 c3) s) (hP : va_P G cl (wd S c3 ad M) H) {k n : Nat} {q : List (Nat ⊕ Nat)} (hk : S[k]? = some (0, n, q)) {i : Int32} (hin : vp_in i n) (hdg : decode cc pc = .ok (.iaload, 1))
    (kk : W p l e R s m args below meth c H locs cells slots Q (F0 m (pc + 1) ls (.int (M k i.toNatClampNeg) :: rest))) : W p l e R s m args below meth c H locs cells slots Q (F0 m pc ls (.int i :: .ref (ad k) :: rest)) :=
  va_iald hx hb hK hP k 0 (wd_at hk) rfl hin hdg kk
theorem xr_zald (hx : p.tables.exec = Jvm.exec) (hb : c.code = cc) (hK : va_K G cl (ty3 c3) s) (hP : va_P G cl (wd S c3 ad M) H) {k n : Nat} {q : List (Nat ⊕ Nat)} (hk : S[k]? = some (1, n, q)) {i : Int32} (hin : vp_in i n) (hdg : decode cc pc = .ok (.baload, 1))
    (kk : W p l e R s m args below meth c H locs cells slots Q (F0 m (pc + 1) ls (.int (M k i.toNatClampNeg) :: rest))) : W p l e R s m args below meth c H locs cells slots Q (F0 m pc ls (.int i :: .ref (ad k) :: rest)) :=
  va_zald hx hb hK hP k 1 (wd_at hk) rfl hin hdg kk
theorem xr_aald (hx : p.tables.exec = Jvm.exec) (hb : c.code = cc) (hK : va_K G cl (ty3 c3) s) (hP : va_P G cl (wd S c3 ad M) H) {k n : Nat} {q : List (Nat ⊕ Nat)} (hk : S[k]? = some (2, n, q)) {i : Int32} (hin : vp_in i n) (hdg : decode cc pc = .ok (.aaload, 1))
    (kk : W p l e R s m args below meth c H locs cells slots Q (F0 m (pc + 1) ls (.ref (ad (k + 1 + i.toNatClampNeg)) :: rest))) : W p l e R s m args below meth c H locs cells slots Q (F0 m pc ls (.int i :: .ref (ad k) :: rest)) := by
  have hlt : i.toNatClampNeg < n := Nat.not_le.mp fun q => hin (Or.inr q)
  refine W.aald (v := .ref (ad (k + 1 + i.toNatClampNeg))) (ty := .array .int) hx hb (hP k _ (wd_at hk)) ((hK.2 2 _ rfl).1 n (fun j => va_rf (if j < n then some (ad (k + 1 + j)) else none))) rfl (fun q => by cases q) (by show ¬ (i < 0 ∨ (arrV _ _ _).slots.size ≤ _); rw [arrV_size]; exact hin) (by show (arrV _ _ _).slots[_]? = _; rw [arrV_read _ _ hlt]; show some (va_rf (if i.toNatClampNeg < n then some (ad (k + 1 + i.toNatClampNeg)) else none)) = _; rw [if_pos hlt]; rfl) rfl rfl hdg kk
theorem xr_iast (hx : p.tables.exec = Jvm.exec) (hb : c.code = cc) (hd : adI S ad) (hK : va_K G cl (ty3 c3) s) (hP : va_P G cl (wd S c3 ad M) H) (hS : va_S (adA S ad) H0 H locs) {k n : Nat} {q : List (Nat ⊕ Nat)} (hk : S[k]? = some (0, n, q)) {i x : Int32} (hin : vp_in i n) (hdg : decode cc pc = .ok (.iastore, 1))
    (kk : ∀ (H1 : Heap) (locs1 : List Loc), va_P G cl (wd S c3 ad (up2 M k i.toNatClampNeg x)) H1 → va_S (adA S ad) H0 H1 locs1 → W p l e R s m args below meth c H1 locs1 cells slots Q (F0 m (pc + 1) ls rest)) : W p l e R s m args below meth c H locs cells slots Q (F0 m pc ls (.int x :: .int i :: .ref (ad k) :: rest)) := by
  refine va_iast hx hb hK hP (wd_D hd) hS k 0 (wd_at hk) rfl hin hdg (fun H1 locs1 h1 _ h3 => kk H1 locs1 ?_ h3)
  rw [← wd_set hk up2_o, up2_same]
  exact h1
theorem xr_zast (hx : p.tables.exec = Jvm.exec) (hb : c.code = cc) (hd : adI S ad) (hK : va_K G cl (ty3 c3) s) (hP : va_P G cl (wd S c3 ad M) H) (hS : va_S (adA S ad) H0 H locs) {k n : Nat} {q : List (Nat ⊕ Nat)} (hk : S[k]? = some (1, n, q)) {i x : Int32} (hin : vp_in i n) (hdg : decode cc pc = .ok (.bastore, 1))
    (kk : ∀ (H1 : Heap) (locs1 : List Loc), va_P G cl (wd S c3 ad (up2 M k i.toNatClampNeg (vp_nar .boolean x))) H1 → va_S (adA S ad) H0 H1 locs1 → W p l e R s m args below meth c H1 locs1 cells slots Q (F0 m (pc + 1) ls rest)) : W p l e R s m args below meth c H locs cells slots Q (F0 m pc ls (.int x :: .int i :: .ref (ad k) :: rest)) := by
  refine va_zast hx hb hK hP (wd_D hd) hS k 1 (wd_at hk) rfl hin hdg (fun H1 locs1 h1 _ h3 => kk H1 locs1 ?_ h3)
  rw [← wd_set hk up2_o, up2_same]
  exact h1
theorem xr_getr (hx : p.tables.exec = Jvm.exec) (hb : c.code = cc) {own : String} (hT : evT s) (hown : s.vm.findClass own = some m.cls) (hK : va_K G cl (ty3 c3) s) (hP : va_P G cl (wd S c3 ad M) H) {k ci : Nat} {fl : List (Nat ⊕ Nat)} (hk : S[k]? = some (3, ci, fl)) {C : String} {T : u_T} {N : Nat} (hc : cl[ci]? = some (C, T, N)) (hin : ∀ w ∈ u_ws C T N, w ∈ gw) (f : Nat) (hf : f < N) {index : Nat} (hlink : Cond.fieldLink own index (T f).1 (T f).2.1 (T f).2.2.1 ∈ gw) {j : Nat} (hj : fl[f]? = some (.inl j)) (hdg : decode cc pc = .ok (.getfield index, 3))
    (kk : W p l e R s m args below meth c H locs cells slots Q (F0 m (pc + 3) ls (.ref (ad j) :: rest))) : W p l e R s m args below meth c H locs cells slots Q (F0 m pc ls (.ref (ad k) :: rest)) :=
  va_get hx hb (hT.hts args) hin hown hK hP k (wd_at hk) hc f hf (hT.1 _ hlink _) (fun _ h => h) (v := .ref (ad j)) (by rw [List.getElem?_map, hj]; rfl) hdg kk
theorem xr_geti (hx : p.tables.exec = Jvm.exec) (hb : c.code = cc) {own : String} (hT : evT s) (hown : s.vm.findClass own = some m.cls) (hK : va_K G cl (ty3 c3) s) (hP : va_P G cl (wd S c3 ad M) H) {k ci : Nat} {fl : List (Nat ⊕ Nat)} (hk : S[k]? = some (3, ci, fl)) {C : String} {T : u_T} {N : Nat} (hc : cl[ci]? = some (C, T, N)) (hin : ∀ w ∈ u_ws C T N, w ∈ gw) (f : Nat) (hf : f < N) {index : Nat} (hlink : Cond.fieldLink own index (T f).1 (T f).2.1 (T f).2.2.1 ∈ gw) {j : Nat} (hj : fl[f]? = some (.inr j)) (hdg : decode cc pc = .ok (.getfield index, 3))
    (kk : W p l e R s m args below meth c H locs cells slots Q (F0 m (pc + 3) ls (.int (M k j) :: rest))) : W p l e R s m args below meth c H locs cells slots Q (F0 m pc ls (.ref (ad k) :: rest)) :=
  va_get hx hb (hT.hts args) hin hown hK hP k (wd_at hk) hc f hf (hT.1 _ hlink _) (fun _ h => h) (v := .int (M k j)) (by rw [List.getElem?_map, hj]; rfl) hdg kk
/-- the numbers of an object: no field but the f-th is the number f -/
def fldI (fl : List (Nat ⊕ Nat)) (f : Nat) : Prop := fl[f]? = some (.inr f) ∧ ∀ j, j ≠ f → fl[j]? ≠ some (.inr f)
theorem fldI_set {ad : Nat → Nat} {g : Nat → Int32} {fl : List (Nat ⊕ Nat)} {f : Nat} {x : Int32} (h : fldI fl f) : (fl.map (wfld ad g)).set f (.int x) = fl.map (wfld ad (upd g f x)) := by
  apply List.ext_getElem?
  intro j
  have hl : f < fl.length := (List.getElem?_eq_some_iff.mp h.1).1
  by_cases hj : j = f
  · subst hj
    rw [List.getElem?_set_self (by rw [List.length_map]; exact hl), List.getElem?_map, h.1]
    show some _ = some (Value.int (upd g j x j))
    rw [pk_us]
  · rw [List.getElem?_set_ne (Ne.symm hj), List.getElem?_map, List.getElem?_map]
    cases hv : fl[j]? with
    | none => rfl
    | some q =>
      cases q with
      | inl a => rfl
      | inr i =>
        have hi : i ≠ f := fun e => h.2 j hj (by rw [hv, e])
        show some (Value.int (g i)) = some (Value.int (upd g f x i))
        rw [pk_un hi]
theorem xr_puti (hx : p.tables.exec = Jvm.exec) (hb : c.code = cc) {own : String} (hT : evT s) (hown : s.vm.findClass own = some m.cls) (hd : adI S ad) (hK : va_K G cl (ty3 c3) s) (hP : va_P G cl (wd S c3 ad M) H) (hS : va_S (adA S ad) H0 H locs) {k ci : Nat} {fl : List (Nat ⊕ Nat)} (hk : S[k]? = some (3, ci, fl)) {C : String} {T : u_T} {N : Nat} (hc : cl[ci]? = some (C, T, N)) (hin : ∀ w ∈ u_ws C T N, w ∈ gw) (ty0 : Nat → FieldType) (hty : ∀ k, k < N → parseFieldDescriptor (T k).2.2.1 = some (ty0 k)) (hnm : ∀ a, a < N → ∀ b, b < N → a ≠ b → (T a).2.1 ≠ (T b).2.1) (f : Nat) (hf : f < N) {index : Nat} (hlink : Cond.fieldLink own index (T f).1 (T f).2.1 (T f).2.2.1 ∈ gw) (hfin : (T f).2.2.2 = false) (hj : fldI fl f) {ty : FieldType} {x : Int32} (hp : parseFieldDescriptor (T f).2.2.1 = some ty) (hn : narrow ty (.int x) = .int x) (hfit : fits ty (.int x) = true) (hdg : decode cc pc = .ok (.putfield index, 3))
    (kk : ∀ (H1 : Heap) (locs1 : List Loc), va_P G cl (wd S c3 ad (up2 M k f x)) H1 → va_S (adA S ad) H0 H1 locs1 → W p l e R s m args below meth c H1 locs1 cells slots Q (F0 m (pc + 3) ls rest)) : W p l e R s m args below meth c H locs cells slots Q (F0 m pc ls (.int x :: .ref (ad k) :: rest)) := by
  refine va_put hx hb (hT.hts args) hin ty0 hty hnm hown hK hP (wd_D hd) hS k (wd_at hk) hc f hf (hT.1 _ hlink _) (fun _ h => h) hfin (v := .int x) hp hn hfit (by rw [List.length_map]; exact (List.getElem?_eq_some_iff.mp hj.1).1) hdg (fun H1 locs1 h1 _ h3 => kk H1 locs1 ?_ h3)
  rw [← wd_set hk up2_o, up2_same]
  rw [fldI_set hj] at h1
  exact h1
/-! answers -/
theorem xr_iret (hx : p.tables.exec = Jvm.exec) (hb : c.code = cc) (hr : meth.sig.returnType = some .int) (hlocks : meth.locks = false) {x v : Int32} (hv : x = v) (hdg : decode cc pc = .ok (.ireturn, 1)) : W p l e R s m args below meth c s.heap [] 0 0 (MQ below (QcRead v) args s 0 0 (fun _ => False)) (F0 m pc ls [.int x]) := by
  subst hv
  exact W.iret hx hb hr (fun t ht _ => ⟨rfl, ht⟩) (fun q h => by cases h) hdg hlocks
theorem nz_of {x : Int32} (h : x = 0 ∨ x = 1) : narrow .boolean (.int x) = .int x := by rcases h with rfl | rfl <;> rfl
theorem xr_zret (hx : p.tables.exec = Jvm.exec) (hb : c.code = cc) (hr : meth.sig.returnType = some .boolean) (hlocks : meth.locks = false) {x v : Int32} (hz : x = 0 ∨ x = 1) (hv : x = v) (hdg : decode cc pc = .ok (.ireturn, 1)) : W p l e R s m args below meth c s.heap [] 0 0 (MQ below (QcRead v) args s 0 0 (fun _ => False)) (F0 m pc ls [.int x]) := by
  subst hv
  exact W.zret hx hb hr (nz_of hz) (fun t ht _ => ⟨rfl, ht⟩) (fun q h => by cases h) hdg hlocks
theorem xw_iret (hx : p.tables.exec = Jvm.exec) (hb : c.code = cc) (hr : meth.sig.returnType = some .int) (hlocks : meth.locks = false) (hP : va_P G cl (wd S c3 ad M) H) (hS : va_S (adA S ad) s.heap H locs) {x v : Int32} (hv : (x, M) = (v, M')) (hdg : decode cc pc = .ok (.ireturn, 1)) : W p l e R s m args below meth c H locs 0 0 (MQ below (QW G cl S c3 ad (some (.int v)) M') args s 0 0 (adA S ad)) (F0 m pc ls [.int x]) := by
  cases hv
  exact W.iret hx hb hr (fun t ht _ => ⟨rfl, by rw [ht]; exact hP, hS.F ht⟩) hS.2.2 hdg hlocks
theorem xw_zret (hx : p.tables.exec = Jvm.exec) (hb : c.code = cc) (hr : meth.sig.returnType = some .boolean) (hlocks : meth.locks = false) (hP : va_P G cl (wd S c3 ad M) H) (hS : va_S (adA S ad) s.heap H locs) {x v : Int32} (hz : x = 0 ∨ x = 1) (hv : (x, M) = (v, M')) (hdg : decode cc pc = .ok (.ireturn, 1)) : W p l e R s m args below meth c H locs 0 0 (MQ below (QW G cl S c3 ad (some (.int v)) M') args s 0 0 (adA S ad)) (F0 m pc ls [.int x]) := by
  cases hv
  exact W.zret hx hb hr (nz_of hz) (fun t ht _ => ⟨rfl, by rw [ht]; exact hP, hS.F ht⟩) hS.2.2 hdg hlocks
theorem xw_vret (hx : p.tables.exec = Jvm.exec) (hb : c.code = cc) (hr : meth.sig.returnType = none) (hlocks : meth.locks = false) (hP : va_P G cl (wd S c3 ad M) H) (hS : va_S (adA S ad) s.heap H locs) (hv : M = M') (hdg : decode cc pc = .ok (.return_, 1)) : W p l e R s m args below meth c H locs 0 0 (MQ below (QW G cl S c3 ad none M') args s 0 0 (adA S ad)) (F0 m pc ls []) := by
  subst hv
  exact W.vret hx hb hr (fun t ht _ => ⟨rfl, by rw [ht]; exact hP, hS.F ht⟩) hS.2.2 hdg hlocks
/-! calls: what the tables say of a callee -/
def ckN (y : MethodName) (n : Nat) : Prop := y.cls ≠ "java/lang/invoke/MethodHandle" ∧ y.cls ≠ "java/lang/invoke/VarHandle" ∧ (parseMethodDescriptor y.desc).map (fun d => d.parameters.length) = some n
theorem mkB {own : String} {index nY n : Nat} {y : MethodName} {b : ByteArray} {ret : Option FieldType} {rm : Room} (hT : evT s) (h1 : Cond.methodLink own index y ∈ gw) (h4 : Cond.initialized y.cls ∈ gw) (h5 : Cond.code y b nY ret ∈ gw) (hd : ckN y n) (hm : rm.cells = 0 ∧ rm.slots = 0) (hR : rm.frames + 1 ≤ R.frames ∧ 8 + (nY + 11) + rm.locals ≤ R.locals) : CallB R s args own index y b nY ret [.code y b nY ret] rm 0 0 n :=
  callB_of n (hT.hts args) (gw_one h5) rfl hm.1 hm.2 (hT.1 _ h4 _) (hT.1 _ h1 _) hd hR
theorem okU.at {s : State} {H : Heap} (hT : evT s) (hK : va_K G cl (ty3 c3) s) (hP : va_P G cl (wd S c3 ad M) H) (As : List Value) : ∀ U : State, U.heap = H → s.WarmedH U.vm → va_Pc As (okU G cl S c3 ad M) As.toArray U :=
  fun U hU hW => ⟨rfl, hT.warm hW, va_K.moved hW.alike hK, by rw [hU]; exact hP⟩
/-- a reading method, invokevirtual -/
theorem xc_rv {own : String} {nL : Nat} (F : CallFix p m c cc nL s args gw own) (hT : evT s) (hK : va_K G cl (ty3 c3) s) (hP : va_P G cl (wd S c3 ad M) H) {y : MethodName} {b : ByteArray} {nY : Nat} {ret : Option FieldType} {rm : Room} {k : Nat} {As : List Value} {v : Int32} (hM : RMet l y b nY ret rm G cl S c3 ad M (.ref (ad k) :: As) v) {ci : Nat} {fl : List (Nat ⊕ Nat)} (hk : S[k]? = some (3, ci, fl)) {T : u_T} {N : Nat} (hc : cl[ci]? = some (y.cls, T, N)) {index : Nat} (h1 : Cond.methodLink own index y ∈ gw) (h2 : Cond.instanceMethod y ∈ gw) (h3 : Cond.selects y.cls y y ∈ gw) (h4 : Cond.initialized y.cls ∈ gw) (h5 : Cond.code y b nY ret ∈ gw) (hd : ckN y As.length) (hm : rm.cells = 0 ∧ rm.slots = 0) (hR : rm.frames + 1 ≤ R.frames ∧ 8 + (nY + 11) + rm.locals ≤ R.locals) (hf : cells ≤ R.cells ∧ slots ≤ R.slots) (hsz : ls.size = nL) {st0 : List Value} (hst : st0 = As.reverse ++ .ref (ad k) :: rest) (hw : (rest.map fun v => v.category).sum ≤ 8) (hdg : decode cc pc = .ok (.invokevirtual index, 3))
    (kk : W p l e R s m args below meth c H locs cells slots Q (F0 m (pc + 3) ls (.int v :: rest))) : W p l e R s m args below meth c H locs cells slots Q (F0 m pc ls st0) := by
  refine W.callR (W.runV (n := As.length) (C := y.cls) (b := ad k) (As := As) (rest := rest) F hM ⟨mkB hT h1 h4 h5 hd hm hR, hT.1 _ h2 _, hT.1 _ h3 _⟩ ⟨okU.blind, va_recv hK hP hc (wd_at hk), okU.at hT hK hP _⟩ rfl rfl hsz hst (lv_room hw) hdg hf) kk
theorem xc_rs {own : String} {nL : Nat} (F : CallFix p m c cc nL s args gw own) (hT : evT s) (hK : va_K G cl (ty3 c3) s) (hP : va_P G cl (wd S c3 ad M) H) {y : MethodName} {b : ByteArray} {nY : Nat} {ret : Option FieldType} {rm : Room} {As : List Value} {v : Int32} (hM : RMet l y b nY ret rm G cl S c3 ad M As v) {index : Nat} (h1 : Cond.methodLink own index y ∈ gw) (h2 : Cond.static y ∈ gw) (h4 : Cond.initialized y.cls ∈ gw) (h5 : Cond.code y b nY ret ∈ gw) (hd : ckN y As.length) (hm : rm.cells = 0 ∧ rm.slots = 0) (hR : rm.frames + 1 ≤ R.frames ∧ 8 + (nY + 11) + rm.locals ≤ R.locals) (hf : cells ≤ R.cells ∧ slots ≤ R.slots) (hsz : ls.size = nL) {st0 : List Value} (hst : st0 = As.reverse ++ rest) (hw : (rest.map fun v => v.category).sum ≤ 8) (hdg : decode cc pc = .ok (.invokestatic index, 3))
    (kk : W p l e R s m args below meth c H locs cells slots Q (F0 m (pc + 3) ls (.int v :: rest))) : W p l e R s m args below meth c H locs cells slots Q (F0 m pc ls st0) := by
  refine W.callR (W.runS (n := As.length) (As := As) (rest := rest) F hM ⟨mkB hT h1 h4 h5 hd hm hR, hT.1 _ h2 _⟩ ⟨okU.blind, okU.at hT hK hP _⟩ rfl rfl hsz hst (lv_room hw) hdg hf) kk
/-- a run of a call that changes nothing -/
theorem xc_back {mc ms : Nat} {g : JFrame} {Qa : State → Outcome → State → Prop} {free : Addr → Prop} (h : va_Run p l e R s m args below meth c H locs cells slots mc ms g rest Qa free) : CallRun p l e R s m args below meth c H locs cells slots mc ms g rest Qa free := by
  intro T hT X
  obtain ⟨v, st₀, t, T', L, h0, X', hL, e1, _, hq, st⟩ := h T hT X
  exact ⟨v, st₀, t, T', L, h0, X', hL, e1, hq, st⟩
theorem mkN {own : String} {index nY n : Nat} {y : MethodName} {b : ByteArray} {ret : Option FieldType} {rm : Room} (hT : evT s) (h1 : (own, index, y) ∈ nl_all) (h4 : Cond.initialized y.cls ∈ gw) (h5 : Cond.code y b nY ret ∈ gw) (hd : ckN y n) (hm : rm.cells = 0 ∧ rm.slots = 0) (hR : rm.frames + 1 ≤ R.frames ∧ 8 + (nY + 11) + rm.locals ≤ R.locals) : va_CN R s args own index y "ExamDesk" b nY ret [.code y b nY ret] rm 0 0 n :=
  va_cnB n (hT.hts args) (gw_one h5) rfl hm.1 hm.2 (hT.2.1 _ h1) (hT.1 _ h4 _) hd hR
theorem xc_rn {own : String} {nL : Nat} (F : CallFix p m c cc nL s args gw own) (hT : evT s) (hK : va_K G cl (ty3 c3) s) (hP : va_P G cl (wd S c3 ad M) H) {y : MethodName} {b : ByteArray} {nY : Nat} {ret : Option FieldType} {rm : Room} {As : List Value} {v : Int32} (hM : RMet l y b nY ret rm G cl S c3 ad M As v) {index : Nat} (h1 : (own, index, y) ∈ nl_all) (h2 : Cond.static y ∈ gw) (h4 : Cond.initialized y.cls ∈ gw) (h5 : Cond.code y b nY ret ∈ gw) (hd : ckN y As.length) (hm : rm.cells = 0 ∧ rm.slots = 0) (hR : rm.frames + 1 ≤ R.frames ∧ 8 + (nY + 11) + rm.locals ≤ R.locals) (hf : cells ≤ R.cells ∧ slots ≤ R.slots) (hsz : ls.size = nL) {st0 : List Value} (hst : st0 = As.reverse ++ rest) (hw : (rest.map fun v => v.category).sum ≤ 8) (hdg : decode cc pc = .ok (.invokestatic index, 3))
    (kk : W p l e R s m args below meth c H locs cells slots Q (F0 m (pc + 3) ls (.int v :: rest))) : W p l e R s m args below meth c H locs cells slots Q (F0 m pc ls st0) := by
  refine W.callR (xc_back (va_runSN (n := As.length) (As := As) (rest := rest) F hM ⟨mkN hT h1 h4 h5 hd hm hR, hT.1 _ h2 _, trivial⟩ ⟨okU.blind, okU.at hT hK hP _⟩ rfl rfl hsz hst (lv_room hw) hdg hf)) kk
/-- a writing method -/
theorem xc_w {v : Option Value} {a : Array Value} {st0 : List Value} (hr : va_Run p l e R s m args below meth c H locs cells slots 0 0 (F0 m pc ls st0) rest (QW G cl S c3 ad v M' a) (adA S ad)) (hS : va_S A H0 H locs) (hA : ∀ q, adA S ad q → A q)
    (kk : ∀ (H1 : Heap) (locs1 : List Loc), va_P G cl (wd S c3 ad M') H1 → va_S A H0 H1 locs1 → (∀ q : Nat, q < H.size → ¬ adA S ad q → H1[q]? = H[q]?) → W p l e R s m args below meth c H1 locs1 cells slots Q (F0 m (pc + 3) ls (v.toList ++ rest))) : W p l e R s m args below meth c H locs cells slots Q (F0 m pc ls st0) := by
  intro T hT X
  obtain ⟨v1, st₀, t, T', L, h0, X', hL, e1, e2, ⟨hv, hp, hz, hk⟩, st⟩ := hr T hT X
  cases hv
  rw [h0] at hz hk
  obtain ⟨t2, a1, b1⟩ := kk T'.heap (locs ++ L) (by rw [e1]; exact hp)
    ⟨Nat.le_trans hS.1 (by rw [e1]; exact hz), fun q h1 h2 => by rw [e1, hk q (Nat.lt_of_lt_of_le h1 hS.1) (fun z => h2 (hA q z))]; exact hS.2.1 q h1 h2, fun q hq => by
      rcases List.mem_append.mp hq with h | h
      · exact hS.2.2 q h
      · exact hA _ (hL q h)⟩ (fun q h1 h2 => by rw [e1]; exact hk q h1 h2) T' rfl X'
  exact ⟨t2, st t2 a1, b1⟩
theorem xc_wv {own : String} {nL : Nat} (F : CallFix p m c cc nL s args gw own) (hT : evT s) (hK : va_K G cl (ty3 c3) s) (hP : va_P G cl (wd S c3 ad M) H) (hS : va_S A H0 H locs) (hA : ∀ q, adA S ad q → A q) {y : MethodName} {b : ByteArray} {nY : Nat} {ret : Option FieldType} {rm : Room} {k : Nat} {As : List Value} {v : Option Value} (hM : WMet l y b nY ret rm G cl S c3 ad M (.ref (ad k) :: As) v M') {ci : Nat} {fl : List (Nat ⊕ Nat)} (hk : S[k]? = some (3, ci, fl)) {T : u_T} {N : Nat} (hc : cl[ci]? = some (y.cls, T, N)) {index : Nat} (h1 : Cond.methodLink own index y ∈ gw) (h2 : Cond.instanceMethod y ∈ gw) (h3 : Cond.selects y.cls y y ∈ gw) (h4 : Cond.initialized y.cls ∈ gw) (h5 : Cond.code y b nY ret ∈ gw) (hd : ckN y As.length) (hm : rm.cells = 0 ∧ rm.slots = 0) (hR : rm.frames + 1 ≤ R.frames ∧ 8 + (nY + 11) + rm.locals ≤ R.locals) (hf : cells ≤ R.cells ∧ slots ≤ R.slots) (hsz : ls.size = nL) {st0 : List Value} (hst : st0 = As.reverse ++ .ref (ad k) :: rest) (hw : (rest.map fun v => v.category).sum ≤ 8) (hdg : decode cc pc = .ok (.invokevirtual index, 3))
    (kk : ∀ (H1 : Heap) (locs1 : List Loc), va_P G cl (wd S c3 ad M') H1 → va_S A H0 H1 locs1 → (∀ q : Nat, q < H.size → ¬ adA S ad q → H1[q]? = H[q]?) → W p l e R s m args below meth c H1 locs1 cells slots Q (F0 m (pc + 3) ls (v.toList ++ rest))) : W p l e R s m args below meth c H locs cells slots Q (F0 m pc ls st0) :=
  xc_w (va_runV (n := As.length) (C := y.cls) (b := ad k) (As := As) (rest := rest) F hM ⟨mkB hT h1 h4 h5 hd hm hR, hT.1 _ h2 _, hT.1 _ h3 _⟩ ⟨okU.blind, va_recv hK hP hc (wd_at hk), okU.at hT hK hP _⟩ rfl rfl hsz hst (lv_room hw) hdg hf) hS hA kk
theorem xc_ws {own : String} {nL : Nat} (F : CallFix p m c cc nL s args gw own) (hT : evT s) (hK : va_K G cl (ty3 c3) s) (hP : va_P G cl (wd S c3 ad M) H) (hS : va_S A H0 H locs) (hA : ∀ q, adA S ad q → A q) {y : MethodName} {b : ByteArray} {nY : Nat} {ret : Option FieldType} {rm : Room} {As : List Value} {v : Option Value} (hM : WMet l y b nY ret rm G cl S c3 ad M As v M') {index : Nat} (h1 : Cond.methodLink own index y ∈ gw) (h2 : Cond.static y ∈ gw) (h4 : Cond.initialized y.cls ∈ gw) (h5 : Cond.code y b nY ret ∈ gw) (hd : ckN y As.length) (hm : rm.cells = 0 ∧ rm.slots = 0) (hR : rm.frames + 1 ≤ R.frames ∧ 8 + (nY + 11) + rm.locals ≤ R.locals) (hf : cells ≤ R.cells ∧ slots ≤ R.slots) (hsz : ls.size = nL) {st0 : List Value} (hst : st0 = As.reverse ++ rest) (hw : (rest.map fun v => v.category).sum ≤ 8) (hdg : decode cc pc = .ok (.invokestatic index, 3))
    (kk : ∀ (H1 : Heap) (locs1 : List Loc), va_P G cl (wd S c3 ad M') H1 → va_S A H0 H1 locs1 → (∀ q : Nat, q < H.size → ¬ adA S ad q → H1[q]? = H[q]?) → W p l e R s m args below meth c H1 locs1 cells slots Q (F0 m (pc + 3) ls (v.toList ++ rest))) : W p l e R s m args below meth c H locs cells slots Q (F0 m pc ls st0) :=
  xc_w (va_runS (n := As.length) (As := As) (rest := rest) F hM ⟨mkB hT h1 h4 h5 hd hm hR, hT.1 _ h2 _⟩ ⟨okU.blind, okU.at hT hK hP _⟩ rfl rfl hsz hst (lv_room hw) hdg hf) hS hA kk
end XR
