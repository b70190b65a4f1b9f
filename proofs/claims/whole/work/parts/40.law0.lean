/-! ===== the law's own rows ===== -/
def zb (x : Int32) : Int32 := if x = 0 then 0 else 1
theorem lg_self (x : Int64) : lg_cmp x x = 0 := by
  unfold lg_cmp
  have h1 : ¬ x < x := Int64.lt_irrefl
  simp [h1]
def simW2 (R : Mem → Mem → Prop) (fx : Mem → Option (Int32 × Mem)) (kx : Mem → Option Nat) (c2 : Nat) (fm : Mem → Option (Int32 × Mem)) (X Y : Mem) : Prop :=
  (∃ r X' Y', fx X = some (r, X') ∧ fm Y = some (r, Y') ∧ Y' 0 0 = 0 ∧ R X' Y') ∨ (∃ b Y', kx X = some 1 ∧ fm Y = some (b, Y') ∧ Y' 0 0 = 1 ∧ R X Y') ∨ (∃ b Y', kx X = some c2 ∧ fm Y = some (b, Y') ∧ Y' 0 0 = 2 ∧ R X Y')
def simW1 (R : Mem → Mem → Prop) (fx : Mem → Option (Int32 × Mem)) (kx : Mem → Option Nat) (fm : Mem → Option (Int32 × Mem)) (X Y : Mem) : Prop :=
  (∃ r X' Y', fx X = some (r, X') ∧ fm Y = some (r, Y') ∧ Y' 0 0 = 0 ∧ R X' Y') ∨ (∃ b Y', kx X = some 1 ∧ fm Y = some (b, Y') ∧ Y' 0 0 = 1 ∧ R X Y')
def simR1 (R : Mem → Mem → Prop) (fx : Mem → Option Int32) (kx : Mem → Option Nat) (c1 : Nat) (fm : Mem → Option (Int32 × Mem)) (X Y : Mem) : Prop :=
  (∃ r Y', fx X = some r ∧ fm Y = some (r, Y') ∧ Y' 0 0 = 0 ∧ R X Y') ∨ (∃ b Y', kx X = some c1 ∧ fm Y = some (b, Y') ∧ Y' 0 0 = 1 ∧ R X Y')
def simV2 (R : Mem → Mem → Prop) (fx : Mem → Option Mem) (kx : Mem → Option Nat) (c2 : Nat) (fm : Mem → Option Mem) (X Y : Mem) : Prop :=
  (∃ X' Y', fx X = some X' ∧ fm Y = some Y' ∧ Y' 0 0 = 0 ∧ R X' Y') ∨ (∃ Y', kx X = some 1 ∧ fm Y = some Y' ∧ Y' 0 0 = 1 ∧ R X Y') ∨ (∃ Y', kx X = some c2 ∧ fm Y = some Y' ∧ Y' 0 0 = 2 ∧ R X Y')
def simP (R : Mem → Mem → Prop) (fx fm : Mem → Option (Int32 × Mem)) (X Y : Mem) : Prop := ∃ r X' Y', fx X = some (r, X') ∧ fm Y = some (r, Y') ∧ R X' Y'
def simS (R : Mem → Mem → Prop) (fx : Mem → Option Int32) (fm : Mem → Option (Int32 × Mem)) (X Y : Mem) : Prop := ∃ r Y', fx X = some r ∧ fm Y = some (r, Y') ∧ R X Y'
/-- what doesn't change while the law runs -/
def LFix (p : Program) (l : Launch) (s : State) (m : MethodId) (meth : Method) (c : Code) (b L : Nat) (xs : Nat → Int32) (G : va_G) (c3 : ClassId × ClassId × ClassId) (cL : ClassId) (adX adM : Nat → Nat) (ao : Nat) : Prop :=
  CallFix p m c cL_law 7 s #[Value.ref b] gw RL ∧ evT s ∧ va_K G kl (ty4 c3 cL) s ∧ evX s.heap.size s ∧ adI SX adX ∧ adI SM adM ∧ (∀ q, adA SX adX q → s.heap.size ≤ q) ∧ (∀ q, adA SM adM q → s.heap.size ≤ q) ∧ s.heap.size ≤ ao ∧ (∀ q, adA SX adX q → ¬ adA SM adM q) ∧ ¬ adA SX adX ao ∧ ¬ adA SM adM ao ∧ va_X b L xs s s.heap ∧ b < s.heap.size ∧ L ≤ 2560 ∧ l.flags = flags0 ∧ meth.sig.returnType = ret ∧ meth.locks = false
/-- what a turn of the law's loop keeps -/
def LInv (s : State) (G : va_G) (c3 : ClassId × ClassId × ClassId) (cL : ClassId) (adX adM : Nat → Nat) (ao : Nat) (X Y : Mem) (o : Nat → Int64) (H : Heap) (locs : List Loc) : Prop :=
  va_P G kl (wd SX c3 adX X) H ∧ va_P G kl (wd SM c3 adM Y) H ∧ va_P G kl (oCell ao cL o) H ∧ va_S (fun q => s.heap.size ≤ q) s.heap H locs
theorem wd_keep {G : va_G} {S : List Kd} {c3 : ClassId × ClassId × ClassId} {ad : Nat → Nat} {M : Mem} {H H1 : Heap} {B : Nat → Prop} (hP : va_P G kl (wd S c3 ad M) H) (hB : ∀ q, adA S ad q → ¬ B q) (hk : ∀ q : Nat, q < H.size → ¬ B q → H1[q]? = H[q]?) : va_P G kl (wd S c3 ad M) H1 :=
  hP.kept (fun k q hq => hk _ ((hP k q hq).lt) (hB _ (by obtain ⟨h1, h2⟩ := wd_get hq; exact ⟨k, h1, h2⟩)))
section LAW0
variable {p : Program} {l : Launch} {e : Env} {R : Room} {s : State} {m : MethodId} {args : Array Value} {below : List Frame} {meth : Method} {c : Code} {H : Heap} {locs : List Loc} {cells slots : Nat} {Q : State → Prop}
variable {cc : ByteArray} {pc : Nat} {ls : Array Slot} {rest : List Value} {b L : Nat} {xs : Nat → Int32} {A : Nat → Prop} {H0 : Heap}
theorem lw_arg (hx : p.tables.exec = Jvm.exec) (hb : c.code = cc) (hXs : va_X b L xs s s.heap) (hbl : b < s.heap.size) (hS : va_S (fun q => s.heap.size ≤ q) s.heap H locs) {lv : List (Nat × Value)} (hl : lv_has ls 7 lv) {p0 p4 n : Nat} (h0 : lv[p0]? = some (0, .ref b)) (h4 : lv[p4]? = some (4, .int (nI n))) (k : Nat) {ki : Int} (hki : Int32.ofInt ki = nI k) (hk : n + k < L) (hL : L ≤ 2560)
    (d1 : decode cc pc = .ok (.aload_n 0, 1)) (d2 : decode cc (pc + 1) = .ok (.iload 4, 2)) (d3 : decode cc (pc + 3) = .ok (.iconst ki, 1)) (d4 : decode cc (pc + 4) = .ok (.iadd, 1)) (d5 : decode cc (pc + 5) = .ok (.iaload, 1))
    (kk : W p l e R s m args below meth c H locs cells slots Q (F0 m (pc + 6) ls (.int (xs (n + k)) :: rest))) : W p l e R s m args below meth c H locs cells slots Q (F0 m pc ls rest) := by
  refine lv_aload_n hx hb d1 rfl (lv_at hl p0 h0) ?_
  refine lv_iload hx hb d2 (lv_at hl p4 h4) ?_
  refine lv_iconst (v := nI k) hx hb d3 hki ?_
  refine lv_iadd hx hb d4 ?_
  refine xr_name (v := nI (n + k)) (nI_add n k) ?_
  refine va_sld hx hb hXs hbl (fun h => by omega) hS (vp_in_nI hk (by omega)) d5 ?_
  rw [nI_clamp (by omega)]
  exact kk
theorem lw_bool (hx : p.tables.exec = Jvm.exec) (hb : c.code = cc) {x : Int32} (d1 : decode cc pc = .ok (.ifCond .eq 7, 3)) (d2 : decode cc (pc + 3) = .ok (.iconst 1, 1)) (d3 : decode cc (pc + 4) = .ok (.goto 4, 3)) (d4 : decode cc (pc + 7) = .ok (.iconst 0, 1))
    (kk : W p l e R s m args below meth c H locs cells slots Q (F0 m (pc + 8) ls (.int (zb x) :: rest))) : W p l e R s m args below meth c H locs cells slots Q (F0 m pc ls (.int x :: rest)) := by
  refine lv_if_eq (tgt := pc + 7) hx hb d1 (by omega) (fun hc => ?_) (fun hc => ?_)
  · refine lv_iconst (v := 0) hx hb d4 rfl ?_
    rw [show zb x = 0 from if_pos hc] at kk
    exact kk
  · refine lv_iconst (v := 1) hx hb d2 rfl ?_
    refine lv_goto (tgt := pc + 8) hx hb d3 (by omega) ?_
    rw [show zb x = 1 from if_neg hc] at kk
    exact kk
theorem lw_boolL (hx : p.tables.exec = Jvm.exec) (hb : c.code = cc) {x : Int32} (d1 : decode cc pc = .ok (.ifCond .eq 7, 3)) (d2 : decode cc (pc + 3) = .ok (.lconst 1, 1)) (d3 : decode cc (pc + 4) = .ok (.goto 4, 3)) (d4 : decode cc (pc + 7) = .ok (.lconst 0, 1))
    (kk : W p l e R s m args below meth c H locs cells slots Q (F0 m (pc + 8) ls (.long (zl x) :: rest))) : W p l e R s m args below meth c H locs cells slots Q (F0 m pc ls (.int x :: rest)) := by
  refine lv_if_eq (tgt := pc + 7) hx hb d1 (by omega) (fun hc => ?_) (fun hc => ?_)
  · refine lv_lconst (v := 0) hx hb d4 rfl ?_
    rw [show zl x = 0 from if_pos hc] at kk
    exact kk
  · refine lv_lconst (v := 1) hx hb d2 rfl ?_
    refine lv_goto (tgt := pc + 8) hx hb d3 (by omega) ?_
    rw [show zl x = 1 from if_neg hc] at kk
    exact kk
variable {G : va_G} {c3 : ClassId × ClassId × ClassId} {cL : ClassId} {adX adM : Nat → Nat} {ao : Nat} {X X' Y Y' : Mem} {o o' : Nat → Int64}
theorem xc_L {k : Int32} {a : Array Value} {st0 : List Value} (hr : va_Run p l e R s m args below meth c H locs cells slots 1 6 (F0 m pc ls st0) rest (QL G c3 cL adX ao k X' o' a) (aL adX ao)) (hS : va_S A H0 H locs) (hA : ∀ q, aL adX ao q → A q)
    (kk : ∀ (H1 : Heap) (locs1 : List Loc), va_P G kl (wd SX c3 adX X') H1 → va_P G kl (oCell ao cL o') H1 → va_S A H0 H1 locs1 → (∀ q : Nat, q < H.size → ¬ aL adX ao q → H1[q]? = H[q]?) → W p l e R s m args below meth c H1 locs1 (cells + 1) (slots + 6) Q (F0 m (pc + 3) ls (.int k :: rest))) : W p l e R s m args below meth c H locs cells slots Q (F0 m pc ls st0) := by
  intro T hT X
  obtain ⟨v1, st₀, t, T', L', h0, X', hL, e1, e2, ⟨hv, hp, ho, hz, hk⟩, st⟩ := hr T hT X
  cases hv
  rw [h0] at hz hk
  obtain ⟨t2, a1, b1⟩ := kk T'.heap (locs ++ L') (by rw [e1]; exact hp) (by rw [e1]; exact ho)
    ⟨Nat.le_trans hS.1 (by rw [e1]; exact hz), fun q h1 h2 => by rw [e1, hk q (Nat.lt_of_lt_of_le h1 hS.1) (fun z => h2 (hA q z))]; exact hS.2.1 q h1 h2, fun q hq => by
      rcases List.mem_append.mp hq with h | h
      · exact hS.2.2 q h
      · exact hA _ (hL q h)⟩ (fun q h1 h2 => by rw [e1]; exact hk q h1 h2) T' rfl X'
  exact ⟨t2, st t2 a1, b1⟩
/-- a helper is called -/
theorem lw_help (C : LFix p l s m meth c b L xs G c3 cL adX adM ao) (hI : LInv s G c3 cL adX adM ao X Y o H locs) {y : MethodName} {bY : ByteArray} {nY : Nat} {hh : List (Nat × Nat × Nat × Nat)} {rm : Room} {As : List Value} {k : Int32} (hM : LMet l y bY nY hh rm s.heap.size G c3 cL adX ao X o As k X' o') {index : Nat} (h1 : Cond.methodLink RL index y ∈ gw) (h2 : Cond.static y ∈ gw) (h4 : Cond.initialized y.cls ∈ gw) (h5 : Cond.codeWith y bY nY (some .int) hh ∈ gw) (hd : ckN y As.length) (hm : rm.cells = 1 ∧ rm.slots = 6) (hR : rm.frames + 1 ≤ R.frames ∧ 8 + (nY + 11) + rm.locals ≤ R.locals) (hf : cells + 1 ≤ R.cells ∧ slots + 6 ≤ R.slots) (hsz : ls.size = 7) {st0 : List Value} (hst : st0 = As.reverse ++ rest) (hw : (rest.map fun v => v.category).sum ≤ 8) (hdg : decode cL_law pc = .ok (.invokestatic index, 3))
    (kk : ∀ (H1 : Heap) (locs1 : List Loc), LInv s G c3 cL adX adM ao X' Y o' H1 locs1 → W p l e R s m #[Value.ref b] below meth c H1 locs1 (cells + 1) (slots + 6) Q (F0 m (pc + 3) ls (.int k :: rest))) : W p l e R s m #[Value.ref b] below meth c H locs cells slots Q (F0 m pc ls st0) := by
  obtain ⟨F, hT, hK, hX, hdX, hdM, g1, g2, g3, g4, g5, g6, g7, g8, g9, g10, g11, g12⟩ := C
  obtain ⟨hPX, hPM, hO, hS⟩ := hI
  have hsame : ∀ q, q < s.heap.size → H[q]? = s.heap[q]? := fun q hq => hS.2.1 q hq (by omega)
  refine xc_L (xl_runS F hT hM ⟨okL.blind, fun U hU hW => ⟨rfl, hT.warm hW, va_K.moved hW.alike hK, by rw [hU]; exact hPX, by rw [hU]; exact hO, hX.moved hW (fun q hq => by rw [hU]; exact hsame q hq)⟩⟩ h1 h2 h4 h5 hd hm hR hf hsz hst hw hdg) hS (fun q h => by rcases h with h | h; exact g1 q h; rw [h]; exact g3) (fun H1 locs1 hP1 hO1 hS1 hkp => kk H1 locs1 ⟨hP1, wd_keep hPM (fun q h h9 => by rcases h9 with h9 | h9; exact g4 q h9 h; rw [h9] at h; exact g6 h) hkp, hO1, hS1⟩)
/-- the reference's own method is called -/
theorem lw_mod (C : LFix p l s m meth c b L xs G c3 cL adX adM ao) (hI : LInv s G c3 cL adX adM ao X Y o H locs) {y : MethodName} {bY : ByteArray} {nY : Nat} {rt : Option FieldType} {rm : Room} {As : List Value} {v : Option Value} (hM : WMet l y bY nY rt rm G kl SM c3 adM Y (.ref (adM 0) :: As) v Y') (hy : y.cls = RM) {index : Nat} (h1 : Cond.methodLink RL index y ∈ gw) (h2 : Cond.instanceMethod y ∈ gw) (h3 : Cond.selects y.cls y y ∈ gw) (h4 : Cond.initialized y.cls ∈ gw) (h5 : Cond.code y bY nY rt ∈ gw) (hd : ckN y As.length) (hm : rm.cells = 0 ∧ rm.slots = 0) (hR : rm.frames + 1 ≤ R.frames ∧ 8 + (nY + 11) + rm.locals ≤ R.locals) (hf : cells ≤ R.cells ∧ slots ≤ R.slots) (hsz : ls.size = 7) {st0 : List Value} (hst : st0 = As.reverse ++ .ref (adM 0) :: rest) (hw : (rest.map fun v => v.category).sum ≤ 8) (hdg : decode cL_law pc = .ok (.invokevirtual index, 3))
    (kk : ∀ (H1 : Heap) (locs1 : List Loc), LInv s G c3 cL adX adM ao X Y' o H1 locs1 → W p l e R s m #[Value.ref b] below meth c H1 locs1 cells slots Q (F0 m (pc + 3) ls (v.toList ++ rest))) : W p l e R s m #[Value.ref b] below meth c H locs cells slots Q (F0 m pc ls st0) := by
  obtain ⟨F, hT, hK, hX, hdX, hdM, g1, g2, g3, g4, g5, g6, g7, g8, g9, g10, g11, g12⟩ := C
  obtain ⟨hPX, hPM, hO, hS⟩ := hI
  refine xc_wv F hT (ty4_3 hK) hPM hS g2 hM sM_0 (by rw [hy]; rfl) h1 h2 h3 h4 h5 hd hm hR hf hsz hst hw hdg (fun H1 locs1 hP1 hS1 hkp => kk H1 locs1 ⟨wd_keep hPX (fun q h h9 => g4 q h h9) hkp, hP1, xo_one hO (hkp ao (xo_lt hO) g6), hS1⟩)
theorem lw_cls (C : LFix p l s m meth c b L xs G c3 cL adX adM ao) (hI : LInv s G c3 cL adX adM ao X Y o H locs) {y : MethodName} {bY : ByteArray} {nY : Nat} {rt : Option FieldType} {rm : Room} {As : List Value} {v : Option Value} (hM : WMet l y bY nY rt rm G kl SX c3 adX X (.ref (adX 0) :: As) v X') (hy : y.cls = RE) {index : Nat} (h1 : Cond.methodLink RL index y ∈ gw) (h2 : Cond.instanceMethod y ∈ gw) (h3 : Cond.selects y.cls y y ∈ gw) (h4 : Cond.initialized y.cls ∈ gw) (h5 : Cond.code y bY nY rt ∈ gw) (hd : ckN y As.length) (hm : rm.cells = 0 ∧ rm.slots = 0) (hR : rm.frames + 1 ≤ R.frames ∧ 8 + (nY + 11) + rm.locals ≤ R.locals) (hf : cells ≤ R.cells ∧ slots ≤ R.slots) (hsz : ls.size = 7) {st0 : List Value} (hst : st0 = As.reverse ++ .ref (adX 0) :: rest) (hw : (rest.map fun v => v.category).sum ≤ 8) (hdg : decode cL_law pc = .ok (.invokevirtual index, 3))
    (kk : ∀ (H1 : Heap) (locs1 : List Loc), LInv s G c3 cL adX adM ao X' Y o H1 locs1 → W p l e R s m #[Value.ref b] below meth c H1 locs1 cells slots Q (F0 m (pc + 3) ls (v.toList ++ rest))) : W p l e R s m #[Value.ref b] below meth c H locs cells slots Q (F0 m pc ls st0) := by
  obtain ⟨F, hT, hK, hX, hdX, hdM, g1, g2, g3, g4, g5, g6, g7, g8, g9, g10, g11, g12⟩ := C
  obtain ⟨hPX, hPM, hO, hS⟩ := hI
  refine xc_wv F hT (ty4_3 hK) hPX hS g1 hM sX_0 (by rw [hy]; rfl) h1 h2 h3 h4 h5 hd hm hR hf hsz hst hw hdg (fun H1 locs1 hP1 hS1 hkp => kk H1 locs1 ⟨hP1, wd_keep hPM (fun q h h9 => g4 q h9 h) hkp, xo_one hO (hkp ao (xo_lt hO) g5), hS1⟩)
end LAW0
