/-! ===== constructors: an object's own cells, made new ===== -/
def aC (h0 sz : Nat) : Nat → Prop := fun q => q = h0 ∨ sz ≤ q
def QC (G : va_G) (c3 : ClassId × ClassId × ClassId) (S : List Kd) (h0 sz : Nat) (M' : Mem) : Array Value → State → Outcome → State → Prop := fun _ st oc t => oc = .returned none ∧ (∃ ad : Nat → Nat, ad 0 = h0 ∧ (∀ k, 0 < k → k < S.length → sz ≤ ad k) ∧ va_P G kl (wd S c3 ad M') t.heap ∧ adI S ad) ∧ va_F (aC h0 sz) st t
def okC (G : va_G) (c3 : ClassId × ClassId × ClassId) (sz h0 ci : Nat) (fs : List Value) (U : State) : Prop := evT U ∧ va_K G kl (ty3 c3) U ∧ aoK c3 U ∧ U.heap.size = sz ∧ va_P G kl [(h0, .inr (ci, fs))] U.heap
theorem okC.blind {G : va_G} {c3 : ClassId × ClassId × ClassId} {sz h0 ci : Nat} {fs : List Value} {As : List Value} : FrameBlind (va_Pc As (okC G c3 sz h0 ci fs)) :=
  fun a U g mk h => ⟨h.1, h.2.1.calling, va_K.moved (u := U) (U := U.calling g mk a) (Vm.Alike.refl U.vm) h.2.2.1, aoK.moved (u := U) (U := U.calling g mk a) (Vm.Alike.refl U.vm) h.2.2.2.1, h.2.2.2.2.1, h.2.2.2.2.2⟩
def CMet (l : Launch) (y : MethodName) (b : ByteArray) (nL : Nat) (rm : Room) (G : va_G) (c3 : ClassId × ClassId × ClassId) (S : List Kd) (sz h0 ci : Nat) (fs : List Value) (M' : Mem) (mc ms : Nat) : Prop :=
  Met l y [.code y b nL none] rm (va_Pc [.ref h0] (okC G c3 sz h0 ci fs)) (QC G c3 S h0 sz M') mc ms (aC h0 sz)
theorem CMet.of {l : Launch} {y : MethodName} {b : ByteArray} {nL : Nat} {rm : Room} {G : va_G} {c3 : ClassId × ClassId × ClassId} {S : List Kd} {sz h0 ci : Nat} {fs : List Value} {M' : Mem} {mc ms : Nat}
    (hy : plainName y.cls = true) (hyn : y.name = "<init>") (hn : 1 ≤ nL)
    (body : ∀ (p : Program) (e : Env) (s : State) (m : MethodId) (args : Array Value) (below : List Frame) (meth : Method) (c : Code) (ls : Array Slot), CallFix p m c b nL s args gw y.cls → evT s → va_K G kl (ty3 c3) s → aoK c3 s → s.heap.size = sz → va_P G kl [(h0, .inr (ci, fs))] s.heap → va_D (aC h0 sz) [(h0, .inr (ci, fs))] → va_S (aC h0 sz) s.heap s.heap [] → (∀ q : Nat, s.heap.size ≤ q → aC h0 sz q) → meth.sig.returnType = none → meth.locks = false → meth.name = "<init>" → lv_has ls nL [(0, .ref h0)] →
      W p l e rm s m args below meth c s.heap [] 0 0 (MQ below (QC G c3 S h0 sz M') args s mc ms (aC h0 sz)) (F0 m 0 ls [])) : CMet l y b nL rm G c3 S sz h0 ci fs M' mc ms := by
  refine Met.ofW (cc := b) (maxL := nL) (ret := none) hy rfl ?_
  intro p e s m args below meth c s₁ B hml hv
  obtain ⟨rfl, hT, hK, hao, hsz, hP⟩ := hv
  have hl := lv_entry [.ref h0] (n := nL) hn
  rw [lg_entry_eq]
  exact body p e s m _ below meth c _ ⟨B.exec, B.bytes, hml, findClass_of_methodNamed B.named, hT.hts _⟩ hT hK hao hsz hP ⟨fun i j x y hi hj _ => by have h1 : i < 1 := (List.getElem?_eq_some_iff.mp hi).1; have h2 : j < 1 := (List.getElem?_eq_some_iff.mp hj).1; omega, fun k q hk => by
    have h1 : k < 1 := (List.getElem?_eq_some_iff.mp hk).1
    rw [show k = 0 by omega] at hk
    cases hk
    exact Or.inl rfl⟩ va_S.rf (fun q hq => Or.inr (by omega)) B.returns B.notSynchronized ((name_of_methodNamed B.named B.method).1.trans hyn) hl
theorem adI_of {S : List Kd} {c3 : ClassId × ClassId × ClassId} {ad : Nat → Nat} {M : Mem} {A : Nat → Prop} (h : va_D A (wd S c3 ad M)) : adI S ad := by
  intro i j hi hj e
  have e1 := wd_at (S := S) (c3 := c3) (ad := ad) (M := M) (List.getElem?_eq_getElem hi)
  have e2 := wd_at (S := S) (c3 := c3) (ad := ad) (M := M) (List.getElem?_eq_getElem hj)
  exact h.1 i j _ _ e1 e2 e
theorem adA_of {S : List Kd} {c3 : ClassId × ClassId × ClassId} {ad : Nat → Nat} {M : Mem} {A : Nat → Prop} (h : va_D A (wd S c3 ad M)) : ∀ q, adA S ad q → A q := by
  rintro q ⟨k, hk, rfl⟩
  exact h.2 k _ (wd_at (S := S) (c3 := c3) (ad := ad) (M := M) (List.getElem?_eq_getElem hk))
section XC1
variable {p : Program} {l : Launch} {e : Env} {R : Room} {s : State} {m : MethodId} {args : Array Value} {below : List Frame} {meth : Method} {c : Code} {H Hb : Heap} {locs locs0 : List Loc} {cells slots : Nat} {Q : State → Prop}
variable {cc : ByteArray} {pc : Nat} {ls : Array Slot} {rest : List Value} {G : va_G} {c3 : ClassId × ClassId × ClassId} {S : List Kd} {ad : Nat → Nat} {M M' : Mem} {A : Nat → Prop} {H0 : Heap} {ws : va_W} {sz h0 : Nat}
theorem xn_newa (hx : p.tables.exec = Jvm.exec) (hb : c.code = cc) (hT : evT s) (hK : va_K G kl (ty3 c3) s) (hP : va_P G kl ws H) (hD : va_D A ws) (hS : va_S A H0 H locs) (hA : ∀ q, H0.size ≤ q → A q) {n : Int32} {N : Nat} (hn : ¬ n < 0) (hN : n.toNatClampNeg = N) (hbytes : N * 4 ≤ 536870912) (hcells : cells + 1 ≤ R.cells) (hslots : slots + N ≤ R.slots) (hdg : decode cc pc = .ok (.newarray .int, 2))
    (kk : ∀ (q : Nat) (H1 : Heap), va_P G kl (ws ++ [(q, .inl (c3.1, N, .inl (fun _ => 0)))]) H1 → va_D A (ws ++ [(q, .inl (c3.1, N, .inl (fun _ => 0)))]) → va_S A H0 H1 locs → W p l e R s m args below meth c H1 locs (cells + 1) (slots + N) Q (F0 m (pc + 2) ls (.ref q :: rest))) : W p l e R s m args below meth c H locs cells slots Q (F0 m pc ls (.int n :: rest)) := by
  refine va_newa (atype := .int) hx hb (hT.1 _ wa_int _) (ty := .int) rfl hK hP hD hS hA (a0 := (N, .inl (fun _ => 0))) (fun cA => by rw [vp_cell_i]; rfl) hn hN hbytes hcells hslots hdg (fun q cA H1 hK1 hP1 hD1 hS1 => ?_)
  have e : cA = c3.1 := by
    have h1 := (hK1.2 3 _ rfl).2
    have h2 := (hK1.2 0 _ rfl).2
    exact Option.some.inj (h1.symm.trans h2)
  subst e
  exact kk q H1 hP1 hD1 hS1
theorem xn_newz (hx : p.tables.exec = Jvm.exec) (hb : c.code = cc) (hT : evT s) (hK : va_K G kl (ty3 c3) s) (hP : va_P G kl ws H) (hD : va_D A ws) (hS : va_S A H0 H locs) (hA : ∀ q, H0.size ≤ q → A q) {n : Int32} {N : Nat} (hn : ¬ n < 0) (hN : n.toNatClampNeg = N) (hbytes : N * 1 ≤ 536870912) (hcells : cells + 1 ≤ R.cells) (hslots : slots + N ≤ R.slots) (hdg : decode cc pc = .ok (.newarray .boolean, 2))
    (kk : ∀ (q : Nat) (H1 : Heap), va_P G kl (ws ++ [(q, .inl (c3.2.1, N, .inl (fun _ => 0)))]) H1 → va_D A (ws ++ [(q, .inl (c3.2.1, N, .inl (fun _ => 0)))]) → va_S A H0 H1 locs → W p l e R s m args below meth c H1 locs (cells + 1) (slots + N) Q (F0 m (pc + 2) ls (.ref q :: rest))) : W p l e R s m args below meth c H locs cells slots Q (F0 m pc ls (.int n :: rest)) := by
  refine va_newa (atype := .boolean) hx hb (hT.1 _ wa_boolean _) (ty := .boolean) rfl hK hP hD hS hA (a0 := (N, .inl (fun _ => 0))) (fun cA => by rw [vp_cell_i]; rfl) hn hN hbytes hcells hslots hdg (fun q cA H1 hK1 hP1 hD1 hS1 => ?_)
  have e : cA = c3.2.1 := by
    have h1 := (hK1.2 3 _ rfl).2
    have h2 := (hK1.2 1 _ rfl).2
    exact Option.some.inj (h1.symm.trans h2)
  subst e
  exact kk q H1 hP1 hD1 hS1
/-- the end of a constructor -/
theorem xw_cret (hx : p.tables.exec = Jvm.exec) (hb : c.code = cc) (hr : meth.sig.returnType = none) (hlk : meth.locks = false) (hS : va_S (aC h0 sz) s.heap H locs) (had : ad 0 = h0) (hge : ∀ k, 0 < k → k < S.length → sz ≤ ad k) (hI : adI S ad) (hA : ∀ q, adA S ad q → aC h0 sz q) (hP : va_P G kl (wd S c3 ad M) H) (hv : M = M') (hdg : decode cc pc = .ok (.return_, 1)) : W p l e R s m args below meth c H locs cells slots (MQ below (QC G c3 S h0 sz M') args s cells slots (aC h0 sz)) (F0 m pc ls []) := by
  subst hv
  exact W.vret hx hb hr (fun t ht _ => ⟨rfl, ⟨ad, had, hge, by rw [ht]; exact hP, hI⟩, hS.F ht⟩) hS.2.2 hdg hlk
theorem xg_iast (hx : p.tables.exec = Jvm.exec) (hb : c.code = cc) (hd : adI S ad) (hA : ∀ q, adA S ad q → A q) (hK : va_K G kl (ty3 c3) s) (hP : va_P G kl (wd S c3 ad M) H) (hS : va_S A H0 H locs) {k n : Nat} {q : List (Nat ⊕ Nat)} (hk : S[k]? = some (0, n, q)) {i x : Int32} (hin : vp_in i n) (hdg : decode cc pc = .ok (.iastore, 1))
    (kk : ∀ (H1 : Heap) (locs1 : List Loc), va_P G kl (wd S c3 ad (up2 M k i.toNatClampNeg x)) H1 → va_S A H0 H1 locs1 → W p l e R s m args below meth c H1 locs1 cells slots Q (F0 m (pc + 1) ls rest)) : W p l e R s m args below meth c H locs cells slots Q (F0 m pc ls (.int x :: .int i :: .ref (ad k) :: rest)) := by
  refine va_iast hx hb hK hP ((wd_D hd).weaken (fun _ _ _ h => hA _ h)) hS k 0 (wd_at hk) rfl hin hdg (fun H1 locs1 h1 _ h3 => kk H1 locs1 ?_ h3)
  rw [← wd_set hk up2_o, up2_same]
  exact h1
/-- a constructor is called -/
theorem xc_c {mc ms : Nat} {a : Array Value} {st0 : List Value} {h1 : Nat} (hr : va_Run p l e R s m args below meth c H locs cells slots mc ms (F0 m pc ls st0) rest (QC G c3 S h1 H.size M' a) (aC h1 H.size)) (hS : va_S A H0 H locs) (hA : ∀ q, aC h1 H.size q → A q)
    (kk : ∀ (ad : Nat → Nat) (H1 : Heap) (locs1 : List Loc), ad 0 = h1 → (∀ k, 0 < k → k < S.length → H.size ≤ ad k) → va_P G kl (wd S c3 ad M') H1 → adI S ad → va_S A H0 H1 locs1 → (∀ q : Nat, q < H.size → q ≠ h1 → H1[q]? = H[q]?) → H.size ≤ H1.size → W p l e R s m args below meth c H1 locs1 (cells + mc) (slots + ms) Q (F0 m (pc + 3) ls rest)) : W p l e R s m args below meth c H locs cells slots Q (F0 m pc ls st0) := by
  intro T hT X
  obtain ⟨v1, st₀, t, T', L, g0, X', hL, e1, e2, ⟨hv, ⟨ad, k1, k2, k3, k4⟩, hz, hk⟩, st⟩ := hr T hT X
  cases hv
  rw [g0] at hz hk
  obtain ⟨t2, a1, b1⟩ := kk ad T'.heap (locs ++ L) k1 k2 (by rw [e1]; exact k3) k4
    ⟨Nat.le_trans hS.1 (by rw [e1]; exact hz), fun q h1' h2 => by rw [e1, hk q (Nat.lt_of_lt_of_le h1' hS.1) (fun z => h2 (hA q z))]; exact hS.2.1 q h1' h2, fun q hq => by
      rcases List.mem_append.mp hq with h | h
      · exact hS.2.2 q h
      · exact hA _ (hL q h)⟩ (fun q h1' h2 => by rw [e1]; exact hk q h1' (fun h => by rcases h with h | h; exact h2 h; omega)) (by rw [e1]; exact hz) T' rfl X'
  exact ⟨t2, st t2 a1, b1⟩
/-- the cells that were there, beside the made object's -/
theorem cj_join {qn : Nat} {e0 : va_E} {H1 : Heap} (hP : va_P G kl (ws ++ [(qn, e0)]) H) (hD : va_D A (ws ++ [(qn, e0)])) (had : ad 0 = qn) (hge : ∀ k, 0 < k → k < S.length → H.size ≤ ad k) (hPn : va_P G kl (wd S c3 ad M') H1) (hI : adI S ad) (hk : ∀ q : Nat, q < H.size → q ≠ qn → H1[q]? = H[q]?) (hA : ∀ q, H.size ≤ q → A q) : va_P G kl (ws ++ wd S c3 ad M') H1 ∧ va_D A (ws ++ wd S c3 ad M') := by
  have hq : A qn := hD.2 ws.length (qn, e0) (by rw [List.getElem?_append_right (Nat.le_refl _), Nat.sub_self]; rfl)
  have hw : ∀ (k : Nat) (x : Nat × va_E), ws[k]? = some x → x.1 < H.size ∧ x.1 ≠ qn ∧ A x.1 := by
    intro k x hx
    have hl : k < ws.length := (List.getElem?_eq_some_iff.mp hx).1
    have h1 : (ws ++ [(qn, e0)])[k]? = some x := by rw [List.getElem?_append_left hl]; exact hx
    refine ⟨(hP k x h1).lt, fun e => ?_, hD.2 k x h1⟩
    have h2 : (ws ++ [(qn, e0)])[ws.length]? = some (qn, e0) := by rw [List.getElem?_append_right (Nat.le_refl _), Nat.sub_self]; rfl
    have := hD.1 k ws.length x (qn, e0) h1 h2 e
    omega
  have hl : ∀ (k : Nat) (x : Nat × va_E), ws[k]? = some x → (ws ++ [(qn, e0)])[k]? = some x := fun k x hx => by
    rw [List.getElem?_append_left (List.getElem?_eq_some_iff.mp hx).1]; exact hx
  refine ⟨va_P.app (fun k x hx => ((hP k x (hl k x hx)).kept (hk _ (hw k x hx).1 (hw k x hx).2.1))) hPn, va_D.app ⟨fun i j x y hi hj h => hD.1 i j x y (hl i x hi) (hl j y hj) h, fun k x hx => (hw k x hx).2.2⟩ ⟨fun i j x y hi hj h => (wd_D hI).1 i j x y hi hj h, fun k x hx => ?_⟩ (fun i j x y hx hy h => ?_)⟩
  · obtain ⟨g1, g2⟩ := wd_get hx
    rw [g2]
    by_cases h0 : k = 0
    · subst h0; rw [had]; exact hq
    · exact hA _ (hge k (by omega) g1)
  · obtain ⟨g1, g2⟩ := wd_get hy
    have h1 := hw i x hx
    by_cases h0 : j = 0
    · subst h0; exact h1.2.1 (by rw [h, g2, had])
    · have := hge j (by omega) g1
      have e9 : x.1 = ad j := by rw [h, g2]
      omega
end XC1
