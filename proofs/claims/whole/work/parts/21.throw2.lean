/-! ===== what a throw needs of the state: two statics of Throwable (below N), texts, declared constructors ===== -/
def zst (N : Nat) (n d : String) (U : State) : Prop := ∃ (c : ClassId) (k : Class) (i : Nat) (f : Field) (a : Nat) (cell : Cell) (v : Value), U.vm.findClass Bundle.tN = some c ∧ U.fieldFound? Bundle.tN n d = some (c, k, i, f) ∧ f.isStatic = true ∧ k.statics = some a ∧ a < N ∧ U.heap[a]? = some cell ∧ cell.vm.isStatics = true ∧ cell.cls = c ∧ f.slot < cell.slots.size ∧ k.staticTypes[f.slot]? = some f.type ∧ cell.slots[f.slot]? = some v ∧ (v = .null ∨ ∃ t, v = .ref t)
theorem zst.moved {N : Nat} {n d : String} {u U : State} (hvm : u.vm.Alike U.vm) (hh : ∀ q, q < N → U.heap[q]? = u.heap[q]?) (h : zst N n d u) : zst N n d U := by
  obtain ⟨c, k, i, f, a, cell, v, h1, h2, h3, h4, h5, h6, h7, h8, h9, h10, h11, h12⟩ := h
  obtain ⟨k', hi', he⟩ := State.fieldFound?_setVm hvm h2
  exact ⟨c, k', i, f, a, cell, v, by rw [hvm.findClass]; exact h1, hi', h3, by rw [he]; exact h4, h5, by rw [hh a h5]; exact h6, h7, h8, h9, by rw [he]; exact h10, h11, h12⟩
theorem zst.lays {N : Nat} {n d : String} {U : State} {A : Array Value} (h : zst N n d U) : (Cond.laysStatic Bundle.tN n d).before A U = true := by
  obtain ⟨c, k, i, f, a, cell, v, h1, h2, h3, h4, h5, h6, h7, h8, h9, h10, h11, h12⟩ := h
  simp [Cond.before, Cond.holds, Cond.value, h1, h2, h3, h4, h6, h7, h8, h9, h10]
theorem zst.ref {N : Nat} {n d : String} {U : State} {A : Array Value} (h : zst N n d U) : (Cond.isRef (.static Bundle.tN n d)).before A U = true := by
  obtain ⟨c, k, i, f, a, cell, v, h1, h2, h3, h4, h5, h6, h7, h8, h9, h10, h11, h12⟩ := h
  have e : (Term.static Bundle.tN n d).eval A U none [] U = some v := by
    simp [Term.eval, State.fieldNamed?, h2, h3, h4, h6, h7, h11]
  rcases h12 with rfl | ⟨t, rfl⟩ <;> simp [Cond.before, Cond.holds, Cond.value, e]
theorem zst.of {N : Nat} {n d : String} {U : State} {A : Array Value} (hN : U.heap.size ≤ N) (h1 : (Cond.laysStatic Bundle.tN n d).before A U = true) (h2 : (Cond.isRef (.static Bundle.tN n d)).before A U = true) : zst N n d U := by
  obtain ⟨c, k, i, f, a, cell, q1, q2, q3, q4, q5, q6, q7, q8, q9⟩ := Cond.laysStatic_spec h1
  have hv : ∃ v, cell.slots[f.slot]? = some v := ⟨_, Array.getElem?_eq_getElem q8⟩
  obtain ⟨v, hv⟩ := hv
  have e : (Term.static Bundle.tN n d).eval A U none [] U = some v := by
    simp [Term.eval, State.fieldNamed?, q2, q3, q4, q5, q6, hv]
  refine ⟨c, k, i, f, a, cell, v, q1, q2, q3, q4, Nat.lt_of_lt_of_le (Array.getElem?_eq_some_iff.mp q5).1 hN, q5, q6, q7, q8, q9, hv, ?_⟩
  simp only [Cond.before, Cond.holds, Cond.value, e] at h2
  cases v with
  | null => exact Or.inl rfl
  | ref t => exact Or.inr ⟨t, rfl⟩
  | _ => simp at h2
def sl_all : List (Nat × String) := [(208, "there is no such thing"), (211, "this is not allowed"), (124, "the seat is taken in some session"), (136, "there is no plan"), (199, "nothing that is counted")]
def dl_all : List MethodName := [Bundle.initS "java/lang/RuntimeException", Bundle.initS "java/lang/Exception", Bundle.initS "java/lang/Throwable"]
/-- an object of class C is no D -/
def ncst (C D : String) (U : State) : Prop := ∃ c d : ClassId, U.vm.findClass C = some c ∧ U.vm.findClass D = some d ∧ U.vm.assignable c d = false
theorem ncst.moved {C D : String} {u U : State} (hvm : u.vm.Alike U.vm) (h : ncst C D u) : ncst C D U := by
  obtain ⟨c, d, h1, h2, h3⟩ := h
  exact ⟨c, d, by rw [hvm.findClass]; exact h1, by rw [hvm.findClass]; exact h2, by rw [hvm.assignable]; exact h3⟩
theorem ncst.of {C D : String} {A : Array Value} {U : State} (h : (Cond.not (.castable C D)).before A U = true) : ncst C D U := by
  simp only [Cond.before, Cond.holds, Cond.value] at h
  cases h1 : U.vm.findClass C with
  | none => simp [h1] at h
  | some c =>
    cases h2 : U.vm.findClass D with
    | none => simp [h1, h2] at h
    | some d =>
      refine ⟨c, d, h1, h2, ?_⟩
      cases h3 : U.vm.assignable c d with
      | false => rfl
      | true => simp [h1, h2, h3] at h
def evX (N : Nat) (U : State) : Prop := zst N "UNASSIGNED_STACK" Bundle.steD U ∧ zst N "SUPPRESSED_SENTINEL" Bundle.listD U ∧ (∀ q ∈ sl_all, ∃ a, vk_R RE q.1 q.2 a U) ∧ (∀ x ∈ dl_all, va_Nw (.declares x) U) ∧ ncst "java/lang/IllegalArgumentException" "java/util/NoSuchElementException" U ∧ ncst "java/lang/IllegalStateException" "java/util/NoSuchElementException" U
theorem evX.moved {N : Nat} {u U : State} (hW : u.WarmedH U.vm) (hh : ∀ q, q < N → U.heap[q]? = u.heap[q]?) (h : evX N u) : evX N U :=
  ⟨h.1.moved hW.alike hh, h.2.1.moved hW.alike hh, fun q hq => by obtain ⟨a, ha⟩ := h.2.2.1 q hq; exact ⟨a, vk_R.warm hW ha⟩, fun x hx => va_Nw.warmD hW (h.2.2.2.1 x hx), h.2.2.2.2.1.moved hW.alike, h.2.2.2.2.2.moved hW.alike⟩
theorem evX.calling {N : Nat} {U : State} {g : JFrame} {mk : MethodId} {a : Array Value} (h : evX N U) : evX N (U.calling g mk a) := evX.moved (u := U) (State.WarmedH.refl U) (fun _ _ => rfl) h
/-! the words on Throwable -/
theorem tw_0 : ∀ c ∈ Bundle.throwableAtoms, c ∈ gw ∨ c = .laysStatic Bundle.tN "UNASSIGNED_STACK" Bundle.steD ∨ c = .laysStatic Bundle.tN "SUPPRESSED_SENTINEL" Bundle.listD := by
  simp only [Bundle.throwableAtoms, List.forall_mem_cons]
  refine ⟨Or.inl (gw_of (tb_1 (List.mem_of_getElem? (i := 8) rfl)) rfl), Or.inl (gw_of (tb_2 (List.mem_of_getElem? (i := 70) rfl)) rfl), Or.inl (gw_of (tb_2 (List.mem_of_getElem? (i := 79) rfl)) rfl), Or.inl (gw_of (tb_2 (List.mem_of_getElem? (i := 83) rfl)) rfl), Or.inl (gw_of (tb_2 (List.mem_of_getElem? (i := 86) rfl)) rfl), Or.inl (gw_of (tb_2 (List.mem_of_getElem? (i := 88) rfl)) rfl), Or.inl (gw_of (tb_2 (List.mem_of_getElem? (i := 71) rfl)) rfl), Or.inl (gw_of (tb_2 (List.mem_of_getElem? (i := 72) rfl)) rfl), Or.inl (gw_of (tb_1 (List.mem_of_getElem? (i := 21) rfl)) rfl), Or.inl (gw_of (tb_1 (List.mem_of_getElem? (i := 22) rfl)) rfl), Or.inl (gw_of (tb_2 (List.mem_of_getElem? (i := 73) rfl)) rfl), Or.inl (gw_of (tb_2 (List.mem_of_getElem? (i := 78) rfl)) rfl), Or.inl (gw_of (tb_2 (List.mem_of_getElem? (i := 84) rfl)) rfl), Or.inl (gw_of (tb_2 (List.mem_of_getElem? (i := 104) rfl)) rfl), Or.inl (gw_of (tb_2 (List.mem_of_getElem? (i := 60) rfl)) rfl), Or.inl (gw_of (tb_2 (List.mem_of_getElem? (i := 105) rfl)) rfl), Or.inl (gw_of (tb_2 (List.mem_of_getElem? (i := 62) rfl)) rfl), Or.inl (gw_of (tb_2 (List.mem_of_getElem? (i := 106) rfl)) rfl), Or.inl (gw_of (tb_2 (List.mem_of_getElem? (i := 64) rfl)) rfl), Or.inl (gw_of (tb_2 (List.mem_of_getElem? (i := 74) rfl)) rfl), Or.inr (Or.inl trivial), Or.inl (gw_of (tb_2 (List.mem_of_getElem? (i := 76) rfl)) rfl), Or.inr (Or.inr trivial), Or.inl (gw_of (tb_2 (List.mem_of_getElem? (i := 66) rfl)) rfl), fun _ h => absurd h List.not_mem_nil⟩
theorem tw_S : ∀ c ∈ Bundle.throwableSAtoms, c ∈ gw := by
  simp only [Bundle.throwableSAtoms, List.forall_mem_cons]
  refine ⟨gw_of (tb_2 (List.mem_of_getElem? (i := 100) rfl)) rfl, gw_of (tb_2 (List.mem_of_getElem? (i := 101) rfl)) rfl, gw_of (tb_2 (List.mem_of_getElem? (i := 103) rfl)) rfl, gw_of (tb_2 (List.mem_of_getElem? (i := 66) rfl)) rfl, fun _ h => absurd h List.not_mem_nil⟩
theorem tw_at {N : Nat} {s : State} (hT : evT s) (hX : evX N s) (args : Array Value) : ∀ c ∈ Bundle.throwableAtoms, c.before args s = true := by
  intro c hc
  rcases tw_0 c hc with h | h | h
  · exact hT.1 c h args
  · rw [h]; exact hX.1.lays
  · rw [h]; exact hX.2.1.lays
theorem xw_N : ∀ a ∈ xt_words RE 210 "java/util/NoSuchElementException", a ∈ gw := by
  simp only [xt_words, List.forall_mem_cons]
  exact ⟨gw_of (tb_2 (List.mem_of_getElem? (i := 90) rfl)) rfl, gw_of (tb_2 (List.mem_of_getElem? (i := 49) rfl)) rfl, gw_of (tb_2 (List.mem_of_getElem? (i := 57) rfl)) rfl, gw_of (tb_2 (List.mem_of_getElem? (i := 58) rfl)) rfl, gw_of (tb_2 (List.mem_of_getElem? (i := 59) rfl)) rfl, gw_of (tb_2 (List.mem_of_getElem? (i := 61) rfl)) rfl, gw_of (tb_2 (List.mem_of_getElem? (i := 63) rfl)) rfl, gw_of (tb_2 (List.mem_of_getElem? (i := 65) rfl)) rfl, gw_of (tb_2 (List.mem_of_getElem? (i := 67) rfl)) rfl, gw_of (tb_2 (List.mem_of_getElem? (i := 69) rfl)) rfl, gw_of (tb_2 (List.mem_of_getElem? (i := 68) rfl)) rfl, gw_of (tb_2 (List.mem_of_getElem? (i := 91) rfl)) rfl, fun _ h => absurd h List.not_mem_nil⟩
theorem xw_G : ∀ a ∈ xt_words RE 201 "java/lang/IllegalArgumentException", a ∈ gw := by
  simp only [xt_words, List.forall_mem_cons]
  exact ⟨gw_of (tb_2 (List.mem_of_getElem? (i := 132) rfl)) rfl, gw_of (tb_2 (List.mem_of_getElem? (i := 123) rfl)) rfl, gw_of (tb_2 (List.mem_of_getElem? (i := 125) rfl)) rfl, gw_of (tb_2 (List.mem_of_getElem? (i := 81) rfl)) rfl, gw_of (tb_2 (List.mem_of_getElem? (i := 126) rfl)) rfl, gw_of (tb_2 (List.mem_of_getElem? (i := 127) rfl)) rfl, gw_of (tb_2 (List.mem_of_getElem? (i := 128) rfl)) rfl, gw_of (tb_2 (List.mem_of_getElem? (i := 129) rfl)) rfl, gw_of (tb_2 (List.mem_of_getElem? (i := 130) rfl)) rfl, gw_of (tb_2 (List.mem_of_getElem? (i := 69) rfl)) rfl, gw_of (tb_2 (List.mem_of_getElem? (i := 68) rfl)) rfl, gw_of (tb_2 (List.mem_of_getElem? (i := 133) rfl)) rfl, fun _ h => absurd h List.not_mem_nil⟩
theorem xw_S : ∀ a ∈ xt_words RE 126 "java/lang/IllegalStateException", a ∈ gw := by
  simp only [xt_words, List.forall_mem_cons]
  exact ⟨gw_of (tb_3 (List.mem_of_getElem? (i := 11) rfl)) rfl, gw_of (tb_3 (List.mem_of_getElem? (i := 2) rfl)) rfl, gw_of (tb_3 (List.mem_of_getElem? (i := 4) rfl)) rfl, gw_of (tb_2 (List.mem_of_getElem? (i := 82) rfl)) rfl, gw_of (tb_3 (List.mem_of_getElem? (i := 5) rfl)) rfl, gw_of (tb_3 (List.mem_of_getElem? (i := 6) rfl)) rfl, gw_of (tb_3 (List.mem_of_getElem? (i := 7) rfl)) rfl, gw_of (tb_3 (List.mem_of_getElem? (i := 8) rfl)) rfl, gw_of (tb_3 (List.mem_of_getElem? (i := 9) rfl)) rfl, gw_of (tb_2 (List.mem_of_getElem? (i := 69) rfl)) rfl, gw_of (tb_2 (List.mem_of_getElem? (i := 68) rfl)) rfl, gw_of (tb_3 (List.mem_of_getElem? (i := 12) rfl)) rfl, fun _ h => absurd h List.not_mem_nil⟩
/-! the chains of constructors -/
theorem dx_0 : decode cJN_init 0 = .ok (.aload_n 0, 1) := by decide +kernel
theorem dx_1 : decode cJN_init 1 = .ok (.aload_n 1, 1) := by decide +kernel
theorem dx_2 : decode cJN_init 2 = .ok (.invokespecial 13, 3) := by decide +kernel
theorem dx_5 : decode cJN_init 5 = .ok (.return_, 1) := by decide +kernel
theorem ch_R {N : Nat} {s : State} (hT : evT s) (hX : evX N s) : ∀ c ∈ Bundle.chainSAtoms "java/lang/RuntimeException" ["java/lang/Exception"], c.before #[] s = true := by
  show ∀ c ∈ Bundle.passSAtoms "java/lang/RuntimeException" "java/lang/Exception" 7 Bundle.six ++ Bundle.passSAtoms "java/lang/Exception" Bundle.tN 7 Bundle.six, c.before #[] s = true
  simp only [Bundle.passSAtoms, List.cons_append, List.nil_append, List.forall_mem_cons]
  exact ⟨hT.1 _ wi_JR_init _, hT.1 _ wc_JR_init _, hT.1 _ wl_JR_7 _, hT.1 _ wi_JX_init _, hX.2.2.2.1 _ (List.mem_of_getElem? (i := 1) rfl), hT.1 _ wi_JX_init _, hT.1 _ wc_JX_init _, hT.1 _ wl_JX_7 _, hT.1 _ wi_JT_initS _, hX.2.2.2.1 _ (List.mem_of_getElem? (i := 2) rfl), fun _ h => absurd h List.not_mem_nil⟩
theorem ch_N {N : Nat} {s : State} (hT : evT s) (hX : evX N s) : xt_chain s "java/util/NoSuchElementException" := by
  intro pl top hpl htop
  obtain ⟨P1, Ps, h1, h2, h3, h4, h5, h6⟩ := Bundle.chainS (args := #[]) hpl htop ["java/lang/Exception"] "java/lang/RuntimeException" (by decide +kernel) (by decide +kernel) (ch_R hT hX)
  obtain ⟨P, L, hm, hs⟩ := PassC.ofS_atoms (args := #[]) (s := s) hpl (X := "java/util/NoSuchElementException") (Y := "java/lang/RuntimeException") (by decide +kernel) (by decide +kernel) dx_0 dx_1 dx_2 dx_5 (by
    simp only [Bundle.passSAtoms, List.forall_mem_cons]
    exact ⟨hT.1 _ wi_JN_init _, hT.1 _ wc_JN_init _, hT.1 _ wl_JN_13 _, hT.1 _ wi_JR_init _, hX.2.2.2.1 _ (List.mem_of_getElem? (i := 0) rfl), fun _ h => absurd h List.not_mem_nil⟩)
  refine ⟨P, P1 :: Ps, by rw [List.length_cons, h1]; rfl, L, fun Q hQ => ?_, hm, Option.some.inj (hs.symm.trans h4), ⟨h5, h6⟩⟩
  rcases List.mem_cons.mp hQ with rfl | hQ
  · exact h2
  · exact h3 Q hQ
theorem ch_G {N : Nat} {s : State} (hT : evT s) (hX : evX N s) : xt_chain s "java/lang/IllegalArgumentException" := by
  intro pl top hpl htop
  refine Bundle.chainS (args := #[]) hpl htop ["java/lang/RuntimeException", "java/lang/Exception"] "java/lang/IllegalArgumentException" (by decide +kernel) (by decide +kernel) ?_
  show ∀ c ∈ Bundle.passSAtoms "java/lang/IllegalArgumentException" "java/lang/RuntimeException" 7 Bundle.six ++ Bundle.chainSAtoms "java/lang/RuntimeException" ["java/lang/Exception"], c.before #[] s = true
  refine List.forall_mem_append.mpr ⟨?_, ch_R hT hX⟩
  simp only [Bundle.passSAtoms, List.forall_mem_cons]
  exact ⟨hT.1 _ wi_JG_init _, hT.1 _ wc_JG_init _, hT.1 _ wl_JG_7 _, hT.1 _ wi_JR_init _, hX.2.2.2.1 _ (List.mem_of_getElem? (i := 0) rfl), fun _ h => absurd h List.not_mem_nil⟩
theorem ch_S {N : Nat} {s : State} (hT : evT s) (hX : evX N s) : xt_chain s "java/lang/IllegalStateException" := by
  intro pl top hpl htop
  refine Bundle.chainS (args := #[]) hpl htop ["java/lang/RuntimeException", "java/lang/Exception"] "java/lang/IllegalStateException" (by decide +kernel) (by decide +kernel) ?_
  show ∀ c ∈ Bundle.passSAtoms "java/lang/IllegalStateException" "java/lang/RuntimeException" 7 Bundle.six ++ Bundle.chainSAtoms "java/lang/RuntimeException" ["java/lang/Exception"], c.before #[] s = true
  refine List.forall_mem_append.mpr ⟨?_, ch_R hT hX⟩
  simp only [Bundle.passSAtoms, List.forall_mem_cons]
  exact ⟨hT.1 _ wi_JS_init _, hT.1 _ wc_JS_init _, hT.1 _ wl_JS_7 _, hT.1 _ wi_JR_init _, hX.2.2.2.1 _ (List.mem_of_getElem? (i := 0) rfl), fun _ h => absurd h List.not_mem_nil⟩
/-! ===== the promise of a method that throws: an object of the class, nothing old is changed ===== -/
def xT (cls : String) (s : State) (x : Addr) (t : State) (mc ms : Nat) : Prop := (∃ ce, t.heap[x]? = some ce ∧ s.vm.findClass cls = some ce.cls ∧ ce.vm = .none) ∧ s.WarmedH t.vm ∧ s.sameButNew ({ t with vm := s.vm } : State) [] mc ms
def TQ (below : List Frame) (cls : String) (s : State) (mc ms : Nat) : State → Prop := fun t => ∃ x, t.status = .running ∧ Ended t below (.threw x) ∧ xT cls s x t mc ms
def TMet (l : Launch) (y : MethodName) (b : ByteArray) (nL : Nat) (ret : Option FieldType) (rm : Room) (Pc : Array Value → State → Prop) (cls : String) (mc ms : Nat) : Prop :=
  MetFree l y (headSpec [.code y b nL ret] rm) Pc (fun _ _ _ _ _ => True) (fun _ st o t => ∃ x, o = .threw x ∧ xT cls st x t mc ms)
theorem htr_of {l : Launch} {e : Env} (hl : l.flags = flags0) (ha : l.admits e) : e.platform.stackTraces = false := by
  rw [ha.platform]
  show l.stackTraces = false
  unfold Launch.stackTraces
  rw [hl]
  decide +kernel
section XT2
variable {p : Program} {l : Launch} {e : Env} {R : Room} {s : State} {m : MethodId} {args : Array Value} {below : List Frame} {meth : Method} {c : Code} {cc : ByteArray} {pc : Nat} {ls : Array Slot}
theorem xt_throw (hx : p.tables.exec = Jvm.exec) (hb : c.code = cc) (hlfl : l.flags = flags0) {N : Nat} (hT : evT s) (hX : evX N s) (hown : s.vm.findClass RE = some m.cls) {cls : String} {iN iS iC : Nat} {tx : String} {bytes : ByteArray} (hcls : Bundle.fit cls = true) (w1 : Cond.classLink RE iN cls ∈ gw) (w2 : Cond.instantiable cls 6 ∈ gw) (w3 : Cond.initialized cls ∈ gw) (hs : (iS, tx) ∈ sl_all) (hB : ∀ a ∈ xt_words RE iC cls, a ∈ gw) (hcode : Cond.code (Bundle.initS cls) bytes 2 none ∈ gw) (hch : xt_chain s cls)
    (d1 : decode cc pc = .ok (.new iN, 3)) (d2 : decode cc (pc + 3) = .ok (.dup, 1)) (d3 : decode cc (pc + 4) = .ok (.ldc iS, 2)) (d4 : decode cc (pc + 6) = .ok (.invokespecial iC, 3)) (d5 : decode cc (pc + 9) = .ok (.athrow, 1)) (hout : c.exceptionTable.isEmpty = true) (hlk : meth.locks = false) (hsz : ls.size = c.maxLocals) (hR : 5 < R.frames ∧ 90 ≤ R.locals ∧ 1 ≤ R.cells ∧ 6 ≤ R.slots) : W p l e R s m args below meth c s.heap [] 0 0 (TQ below cls s 1 6) (F0 m pc ls []) := by
  refine W.newc hx hb hown (hT.1 _ w1 _) (hT.1 _ w2 _) (hT.1 _ w3 _) rfl d1 (by omega) (by omega) (fun cC kC h1 h2 h3 h4 => ?_)
  refine W.eq (g2 := F0 m (pc + 3) ls [.ref s.heap.size]) rfl ?_
  refine lv_dup hx hb d2 rfl ?_
  obtain ⟨q, hq⟩ := hX.2.2.1 _ hs
  refine va_ldcS hx hb hown hq d3 ?_
  intro T hT' X
  have hc : T.heap[s.heap.size]? = some (freshCell cC kC) := by rw [hT']; simp
  obtain ⟨U, k1, k2, k3, k4, k5, ce, k6, k7, k8⟩ := xt_ctor X hx (htr_of hlfl X.admits) hown hcls (tw_at hT hX args) (fun a ha => hT.1 a (tw_S a ha) args) (fun a ha => hT.1 a (hB a ha) args) hX.1.ref hX.2.1.ref (hT.1 _ hcode args) hch h1 h2 hc (Nat.le_refl _) (msg := .ref q) rfl (g := F0 m (pc + 6) ls [.ref q, .ref s.heap.size, .ref s.heap.size]) rfl hsz rfl rfl (rest := []) rfl (by rw [hb]; exact d4) (by rw [hb]; exact d5) (covers_of_empty hout _) hR.1 (by show 2 * 0 + 1 + 81 ≤ _; omega) hlk
  exact ⟨U, k1, s.heap.size, k2, k3, ⟨ce, k6, by rw [k7]; exact h1, k8⟩, k4, k5⟩
end XT2
theorem TMet.of {l : Launch} {y : MethodName} {b : ByteArray} {nL : Nat} {ret : Option FieldType} {rm : Room} {As : List Value} {B : State → Prop} {cls : String} {mc ms : Nat}
    (hy : plainName y.cls = true) (hn : (lg_sl As).length ≤ nL)
    (body : ∀ (p : Program) (e : Env) (s : State) (m : MethodId) (args : Array Value) (below : List Frame) (meth : Method) (c : Code) (ls : Array Slot), p.tables.exec = Jvm.exec → c.code = b → c.maxLocals = nL → s.vm.findClass y.cls = some m.cls → B s → meth.sig.returnType = ret → meth.locks = false → c.exceptionTable.isEmpty = true → lv_has ls nL (lv_args 0 As) →
      W p l e rm s m args below meth c s.heap [] 0 0 (TQ below cls s mc ms) (F0 m 0 ls [])) : TMet l y b nL ret rm (va_Pc As B) cls mc ms := by
  refine MetFree.of_bodyS (code := b) (maxLocals := nL) (ret := ret) hy ?_ ?_
  · intro args s m h hn
    obtain ⟨meth, c, h1, h2, h3, h4, h5, h6, -, -⟩ := Cond.code_spec hn (atoms_spec (ws := [.code y b nL ret]) h _ List.mem_cons_self)
    exact ⟨meth, c, h1, h2, h3, h4, h5, h6⟩
  · intro p e s m args below meth c s₁ B' hml hP _
    obtain ⟨rfl, hB⟩ := hP
    have hh0 : s₁.heap = s.heap := by rw [B'.state]; rfl
    have hl := lv_entry As (n := nL) hn
    have hout := B'.noHandlers (atoms_spec (ws := [.code y b nL ret]) B'.pre _ List.mem_cons_self)
    rw [lg_entry_eq]
    obtain ⟨t, a1, x, b1, b2, b3⟩ := body p e s m _ below meth c _ B'.exec B'.bytes hml (findClass_of_methodNamed B'.named) hB B'.returns B'.notSynchronized hout hl s₁ hh0 (Stand.of_body B')
    exact ⟨t, .threw x, a1, b1, b2, x, rfl, b3⟩
