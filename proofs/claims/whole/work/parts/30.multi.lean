/-! ===== new int[n][k]: the machine's own making, row by row ===== -/
def mzO (cA : ClassId) (n h i : Nat) : Cell := arrV cA n (fun j => if j < i then .ref (h + 1 + j) else .null)
def mzI (cI : ClassId) (k : Nat) : Cell := arrV cI k (fun _ => .int 0)
def mzS (T : State) (cA cI : ClassId) (n k : Nat) : Nat → State
  | 0 => T.pushCell (mzO cA n T.heap.size 0)
  | i + 1 => ((mzS T cA cI n k i).pushCell (mzI cI k)).setCell T.heap.size (mzO cA n T.heap.size (i + 1))
theorem mzO_set (cA : ClassId) (n h i : Nat) : (mzO cA n h i).setSlot i (.ref (h + 1 + i)) = mzO cA n h (i + 1) := by
  unfold mzO
  rw [arrV_store]
  congr 1
  funext j
  unfold updV
  by_cases e : j = i
  · subst e; simp
  · by_cases hj : j < i
    · simp [e, hj, Nat.lt_succ_of_lt hj]
    · simp [e, hj, show ¬ j < i + 1 by omega]
theorem mzS_facts (T : State) (cA cI : ClassId) (n k : Nat) : ∀ i, (mzS T cA cI n k i).heap.size = T.heap.size + 1 + i ∧ (mzS T cA cI n k i).heap[T.heap.size]? = some (mzO cA n T.heap.size i) ∧ (mzS T cA cI n k i).vm = T.vm ∧ (mzS T cA cI n k i).slotsUsed = T.slotsUsed + n + i * k
  | 0 => ⟨by simp [mzS], by simp [mzS], rfl, by simp [mzS, mzO, arrV_size]⟩
  | i + 1 => by
    obtain ⟨a, b, d, u⟩ := mzS_facts T cA cI n k i
    have hlt : T.heap.size < (mzS T cA cI n k i).heap.size := by omega
    have hb' : ((mzS T cA cI n k i).pushCell (mzI cI k)).heap[T.heap.size]? = some (mzO cA n T.heap.size i) := by rw [State.heap_pushCell_of_lt (h := hlt)]; exact b
    refine ⟨?_, State.heap_setCell_self hb', ?_, ?_⟩
    · simp [mzS, State.setCell, a]; omega
    · simp [mzS, d]
    · simp [mzS, u, mzI, arrV_size, Nat.succ_mul]; omega
theorem mzS_old (T : State) (cA cI : ClassId) (n k : Nat) {q : Addr} (hq : q < T.heap.size) : ∀ i, (mzS T cA cI n k i).heap[q]? = T.heap[q]?
  | 0 => State.heap_pushCell_of_lt _ _ hq
  | i + 1 => by
    have f1 := (mzS_facts T cA cI n k i).1
    have hlt : q < (mzS T cA cI n k i).heap.size := Nat.lt_of_lt_of_le hq (by rw [f1]; omega)
    show (((mzS T cA cI n k i).pushCell (mzI cI k)).setCell T.heap.size _).heap[q]? = _
    rw [State.heap_setCell_other (Nat.ne_of_gt hq), State.heap_pushCell_of_lt (h := hlt)]
    exact mzS_old T cA cI n k hq i
theorem mzS_row (T : State) (cA cI : ClassId) (n k : Nat) : ∀ i j, j < i → (mzS T cA cI n k i).heap[T.heap.size + 1 + j]? = some (mzI cI k)
  | 0, _, h => absurd h (Nat.not_lt_zero _)
  | i + 1, j, h => by
    have f1 := (mzS_facts T cA cI n k i).1
    show (((mzS T cA cI n k i).pushCell (mzI cI k)).setCell T.heap.size _).heap[T.heap.size + 1 + j]? = _
    rw [State.heap_setCell_other (show T.heap.size ≠ T.heap.size + 1 + j by omega)]
    by_cases hj : j < i
    · have hlt : T.heap.size + 1 + j < (mzS T cA cI n k i).heap.size := by rw [f1]; omega
      rw [State.heap_pushCell_of_lt (h := hlt)]
      exact mzS_row T cA cI n k i j hj
    · have e : j = i := by omega
      subst e
      rw [← f1]
      exact State.heap_pushCell_size _ _
theorem mzS_top (T : State) (f : JFrame) (cA cI : ClassId) (n k : Nat) : ∀ i, mzS (T.setTop f) cA cI n k i = (mzS T cA cI n k i).setTop f
  | 0 => rfl
  | i + 1 => by simp only [mzS, mzS_top T f cA cI n k i, State.heap_setTop, State.pushCell_setTop, State.setCell_setTop]
section MZ1
variable {p : Program} {l : Launch} {e : Env} {R : Room} {s : State} {m : MethodId} {args : Array Value} {below : List Frame} {meth : Method} {c : Code} {T : State} {locs : List Loc} {cells slots : Nat}
theorem mz_stand (X : Stand p l e R s m args below meth c T locs cells slots) (cA cI : ClassId) (n k : Nat) : ∀ i, Stand p l e R s m args below meth c (mzS T cA cI n k i) locs (cells + 1 + i) (slots + n + i * k)
  | 0 => by
    have h := X.pushed (mzO cA n T.heap.size 0)
    rw [show (mzO cA n T.heap.size 0).slots.size = n from arrV_size _ _ _] at h
    simpa [mzS] using h
  | i + 1 => by
    have Xi := mz_stand X cA cI n k i
    obtain ⟨f1, f2, f3, f4⟩ := mzS_facts T cA cI n k i
    have hlt : T.heap.size < (mzS T cA cI n k i).heap.size := by rw [f1]; omega
    have hcell : ((mzS T cA cI n k i).pushCell (mzI cI k)).heap[T.heap.size]? = some (mzO cA n T.heap.size i) := by rw [State.heap_pushCell_of_lt (h := hlt)]; exact f2
    have h := (Xi.pushed (mzI cI k)).stored hcell i (.ref (T.heap.size + 1 + i))
    rw [show (mzI cI k).slots.size = k from arrV_size _ _ _, mzO_set] at h
    have h2 := Stand.forget (locs := locs) h (fun y hy => by rw [List.mem_singleton.mp hy]; exact X.same.2.1)
    rw [show slots + n + (i + 1) * k = slots + n + i * k + k by rw [Nat.succ_mul]; omega]
    exact h2
end MZ1
section MZ2
variable {E : CtlPost} {e : Env} {d : Bool} {acts : List Action} {s : State}
theorem mz_new {c comp : ClassId} {k : Class} {type : FieldType} {len : Nat} {init : Value} (hk : s.vm.classes[c]? = some k) (hkind : k.kind = .array comp type)
    (hlimit : ¬ len > e.platform.arrayLengthLimit) (hheap : ¬ len * componentBytes type > e.platform.maxHeapBytes) (hfit : fits type init = true) (hdef : init.isDefault = true) {Q : Addr → Pre}
    (h1 : s.heap.size < e.platform.maxCells) (h2 : s.slotsUsed + len ≤ e.platform.maxSlots)
    (hq : Q s.heap.size d acts (s.pushCell (arrV c len (fun _ => init)))) : wp (Jvm.newArray c len init) Q E e d acts s := by
  have hfits : ∀ i v, (Array.replicate len init)[i]? = some v → s.fitsSlot c .none i v = true := by
    intro i v hv
    rw [Array.getElem?_replicate] at hv
    split at hv
    · cases hv; simp [State.fitsSlot, State.slotType?, hk, hkind, hfit]
    · cases hv
  have hall : ((Array.replicate len init).all (·.isDefault)) = true := by
    rw [Array.all_replicate]; split <;> simp [hdef]
  have hda : allocActs (Array.replicate len init) s.heap.size acts = acts := by
    unfold allocActs; rw [if_pos hall]
  rw [← arrV_new] at hq
  simp only [Jvm.newArray, Jvm.arrayFits, wp_bind', W.ask, W.ite, hlimit, if_false, wp_pure', W.theClass, hk, hkind, hheap, W.alloc, W.stop, Option.some.injEq, exists_eq_left', Array.size_replicate, hda]
  rw [if_neg (by omega)]
  exact ⟨h1, h2, hfits, hq⟩
theorem mz_make {cA cI cx : ClassId} {kA kI : Class} {n m : Int32} (hkA : s.vm.classes[cA]? = some kA) (hkindA : kA.kind = .array cI (.array .int)) (hkI : s.vm.classes[cI]? = some kI) (hkindI : kI.kind = .array cx .int) (hn : ¬ n < 0) (hm : ¬ m < 0)
    (hl1 : ¬ n.toNatClampNeg > e.platform.arrayLengthLimit) (hh1 : ¬ n.toNatClampNeg * 4 > e.platform.maxHeapBytes) (hl2 : ¬ m.toNatClampNeg > e.platform.arrayLengthLimit) (hh2 : ¬ m.toNatClampNeg * 4 > e.platform.maxHeapBytes)
    (hc : s.heap.size + 1 + n.toNatClampNeg ≤ e.platform.maxCells) (hs : s.slotsUsed + n.toNatClampNeg + n.toNatClampNeg * m.toNatClampNeg ≤ e.platform.maxSlots)
    {Q : Addr → Pre} (hq : ∀ d' acts', Q s.heap.size d' acts' (mzS s cA cI n.toNatClampNeg m.toNatClampNeg n.toNatClampNeg)) : wp (multianewarray.make cA [n, m]) Q E e d acts s := by
  have hfind : ([m].find? (· < 0)) = none := by simp [hm]
  rw [multianewarray.make]
  simp only [wp_bind', W.ite, hn, if_false, wp_pure', W.theClass, hkA, hkindA, Option.some.injEq, exists_eq_left']
  refine mz_new hkA hkindA hl1 hh1 rfl rfl (by omega) (by omega) ?_
  simp only [hfind]
  rw [ite_self, wp_bind', Std.Legacy.Range.forIn_eq_forIn_range']
  rw [show ([:n.toNatClampNeg] : Std.Legacy.Range).size = n.toNatClampNeg by simp [Std.Legacy.Range.size]]
  show wp (forIn (List.range' 0 n.toNatClampNeg 1) PUnit.unit _) _ E e d acts _
  refine wp_forIn_inv (fun rest s' => ∃ i, i ≤ n.toNatClampNeg ∧ rest = List.range' i (n.toNatClampNeg - i) ∧ s' = mzS s cA cI n.toNatClampNeg m.toNatClampNeg i) _ _ ⟨0, Nat.zero_le _, rfl, ?_⟩ ?_ ?_
  · show s.pushCell _ = s.pushCell _
    congr 1
  · rintro x rest s' d' acts' Q' ⟨i, hi, hl, rfl⟩ hnext
    have hlt : i < n.toNatClampNeg := by
      rcases Nat.lt_or_ge i n.toNatClampNeg with h | h
      · exact h
      · rw [show n.toNatClampNeg - i = 0 from by omega] at hl; simp at hl
    obtain ⟨rfl, hrest⟩ : x = i ∧ rest = List.range' (i + 1) (n.toNatClampNeg - (i + 1)) := by
      rw [show n.toNatClampNeg - i = (n.toNatClampNeg - (i + 1)) + 1 from by omega, List.range'_succ] at hl
      exact ⟨(List.cons.inj hl).1, (List.cons.inj hl).2⟩
    obtain ⟨f1, f2, f3, f4⟩ := mzS_facts s cA cI n.toNatClampNeg m.toNatClampNeg x
    have hmul : x * m.toNatClampNeg + m.toNatClampNeg ≤ n.toNatClampNeg * m.toNatClampNeg := by
      have := Nat.mul_le_mul_right m.toNatClampNeg (show x + 1 ≤ n.toNatClampNeg from hlt)
      rw [Nat.succ_mul] at this; exact this
    simp only [wp_bind']
    rw [multianewarray.make]
    simp only [wp_bind', W.ite, hm, if_false, wp_pure', W.theClass, show (mzS s cA cI n.toNatClampNeg m.toNatClampNeg x).vm.classes[cI]? = some kI by rw [f3]; exact hkI, hkindI, Option.some.injEq, exists_eq_left']
    refine mz_new (by rw [f3]; exact hkI) hkindI hl2 hh2 rfl rfl (by rw [f1]; omega) (by rw [f4]; omega) ?_
    have hlt0 : s.heap.size < (mzS s cA cI n.toNatClampNeg m.toNatClampNeg x).heap.size := by rw [f1]; omega
    have hsz : (mzO cA n.toNatClampNeg s.heap.size x).slots.size = n.toNatClampNeg := arrV_size _ _ _
    simp only [wp_bind', W.writeLoc, wp_pure']
    refine ⟨mzO cA n.toNatClampNeg s.heap.size x, ?_, ?_, ?_, ?_, hnext _ _ _ ⟨x + 1, hlt, hrest, ?_⟩⟩
    · rw [State.heap_pushCell_of_lt (h := hlt0)]; exact f2
    · intro h; cases h
    · rw [hsz]; exact hlt
    · simp [mzO, arrV, State.fitsSlot, State.slotType?, f3, hkA, hkindA]
      rfl
    · rw [f1, mzO_set]
      rfl
  · rintro s' d' acts' ⟨i, hi, hl, rfl⟩
    have hiN : i = n.toNatClampNeg := by
      rcases Nat.lt_or_ge i n.toNatClampNeg with h | h
      · rw [show n.toNatClampNeg - i = (n.toNatClampNeg - (i + 1)) + 1 from by omega, List.range'_succ] at hl; cases hl
      · omega
    subst hiN
    simp only [wp_pure']
    exact hq _ _
end MZ2
/-- the classes of int[][] and of its rows -/
def aoK (c3 : ClassId × ClassId × ClassId) (U : State) : Prop := ∃ (kA kI : Class) (cx : ClassId), U.vm.classes[c3.2.2]? = some kA ∧ kA.kind = .array c3.1 (.array .int) ∧ U.vm.classes[c3.1]? = some kI ∧ kI.kind = .array cx .int ∧ U.vm.findClass "[[I" = some c3.2.2
theorem aoK.moved {c3 : ClassId × ClassId × ClassId} {u U : State} (hvm : u.vm.Alike U.vm) (h : aoK c3 u) : aoK c3 U := by
  obtain ⟨kA, kI, cx, h1, h2, h3, h4, h5⟩ := h
  obtain ⟨kA', g1, e1⟩ := hvm.2.2 _ _ h1
  obtain ⟨kI', g3, e3⟩ := hvm.2.2 _ _ h3
  exact ⟨kA', kI', cx, g1, by rw [e1]; exact h2, g3, by rw [e3]; exact h4, by rw [hvm.findClass]; exact h5⟩
def mzW (c3 : ClassId × ClassId × ClassId) (q N K : Nat) (fO : Nat → Option Nat) : va_W := (q, .inl (c3.2.2, N, .inr (.inr (.inr (.inr fO))))) :: (List.range N).map (fun i => (q + 1 + i, .inl (c3.1, K, .inl (fun _ => 0))))
section MZ3
variable {p : Program} {l : Launch} {e : Env} {R : Room} {s : State} {m : MethodId} {args : Array Value} {below : List Frame} {meth : Method} {c : Code} {T : State} {H : Heap} {locs : List Loc} {cells slots : Nat} {Q : State → Prop}
variable {cc : ByteArray} {pc : Nat} {ls : Array Slot} {rest : List Value} {G : va_G} {cl : List vw_C} {c3 : ClassId × ClassId × ClassId} {A : Nat → Prop} {H0 : Heap} {ws : va_W}
theorem mz_step (X : Stand p l e R s m args below meth c T locs cells slots) (hexec : p.tables.exec = Jvm.exec) {own : String} {index : Nat} (hown : s.vm.findClass own = some m.cls) (hclink : (Cond.classLink own index "[[I").before args s = true) (hao : aoK c3 s)
    {g : JFrame} (hg : g.method = m) (hdg : decode c.code g.pc = .ok (.multianewarray index 2, 4)) {n k : Int32} {rest : List Value} (hstack : g.stack = .int k :: .int n :: rest) (hn : ¬ n < 0) (hk : ¬ k < 0) (hb1 : n.toNatClampNeg * 4 ≤ 536870912) (hb2 : k.toNatClampNeg * 4 ≤ 536870912)
    (hcells : cells + (1 + n.toNatClampNeg) ≤ R.cells) (hslots : slots + (n.toNatClampNeg + n.toNatClampNeg * k.toNatClampNeg) ≤ R.slots) :
    ∃ vm₁ : Vm, Stand p l e R s m args below meth c (mzS (T.setVm vm₁) c3.2.2 c3.1 n.toNatClampNeg k.toNatClampNeg n.toNatClampNeg) locs (cells + 1 + n.toNatClampNeg) (slots + n.toNatClampNeg + n.toNatClampNeg * k.toNatClampNeg) ∧
      ∀ target, Steps p.tables e below ((mzS (T.setVm vm₁) c3.2.2 c3.1 n.toNatClampNeg k.toNatClampNeg n.toNatClampNeg).setTop { g with pc := g.pc + 4, stack := .ref T.heap.size :: rest }) target → Steps p.tables e below (T.setTop g) target := by
  subst hg
  have hpl : e.platform.magicAccessors = ({} : Platform).magicAccessors := by rw [X.admits.platform]
  obtain ⟨kA, kI, cx, hkA, hkindA, hkI, hkindI, hnameA⟩ := hao
  obtain ⟨c0, hfc0, hcl⟩ := Cond.classLink_spec hown hclink e.platform hpl
  cases hnameA.symm.trans hfc0
  obtain ⟨hg₁, hwarm₁, hready₁⟩ := State.classEntry (e := e) X.warmed hcl
  generalize T.vm.noted g.method.cls index (.cls c3.2.2) = vm₁ at hg₁ hwarm₁ hready₁
  obtain ⟨kA₁, hkA₁, heA⟩ := hwarm₁.alike.2.2 _ _ hkA
  obtain ⟨kI₁, hkI₁, heI⟩ := hwarm₁.alike.2.2 _ _ hkI
  have X₁ := X.noted hwarm₁
  obtain ⟨hr1, hr2⟩ := X.roomAbove hcells hslots
  have XF := mz_stand X₁ c3.2.2 c3.1 n.toNatClampNeg k.toNatClampNeg n.toNatClampNeg
  refine ⟨vm₁, XF, fun target hrest => ?_⟩
  have hl1 : ¬ n.toNatClampNeg > e.platform.arrayLengthLimit := by rw [Launch.admits_arrayLengthLimit X.admits]; omega
  have hh1 : ¬ n.toNatClampNeg * 4 > e.platform.maxHeapBytes := by rw [Launch.admits_maxHeapBytes X.admits]; omega
  have hl2 : ¬ k.toNatClampNeg > e.platform.arrayLengthLimit := by rw [Launch.admits_arrayLengthLimit X.admits]; omega
  have hh2 : ¬ k.toNatClampNeg * 4 > e.platform.maxHeapBytes := by rw [Launch.admits_maxHeapBytes X.admits]; omega
  jvm_step X.here [hexec, hdg]
  simp only [multianewarray.sem, wp_bind', W.resolveClassAt_links (State.method?_setTop g X.here.top) hg₁]
  rw [W.popN, if_neg (by decide)]
  refine ⟨g, State.topJava?_setTop' (s := T.setVm vm₁) g X.here.top, [.int n, .int k], rest, rfl, hstack, ?_⟩
  simp only [List.mapM_cons, List.mapM_nil, wp_bind', wp_pure']
  refine mz_make (kA := kA₁) (kI := kI₁) (cI := c3.1) (cx := cx) hkA₁ (by rw [heA]; exact hkindA) hkI₁ (by rw [heI]; exact hkindI) hn hk hl1 hh1 hl2 hh2 (by show T.heap.size + 1 + _ ≤ _; omega) (by show T.slotsUsed + _ + _ ≤ _; omega) (fun d' acts' => ?_)
  have eS : ((T.setTop g).setVm vm₁).setTop { g with stack := rest } = (T.setVm vm₁).setTop { g with stack := rest } := by
    show ((T.setVm vm₁).setTop g).setTop _ = _
    rw [State.setTop_setTop]
  rw [eS, mzS_top]
  simp only [wp_bind', W.mark, W.pushRef, State.topJava?_setTop' _ XF.here.top, Option.some.injEq, exists_eq_left', State.setTop_setTop, State.heap_setTop]
  intro acts
  simp [jvm, XF.here.top]
  exact hrest
theorem xn_mna (hx : p.tables.exec = Jvm.exec) (hb : c.code = cc) {own : String} {index : Nat} (hown : s.vm.findClass own = some m.cls) (hclink : (Cond.classLink own index "[[I").before args s = true) (hao : aoK c3 s) (hP : va_P G cl ws H) (hD : va_D A ws) (hS : va_S A H0 H locs) (hA : ∀ q, H0.size ≤ q → A q)
    {n k : Int32} {N K : Nat} (hn : ¬ n < 0) (hk : ¬ k < 0) (hN : n.toNatClampNeg = N) (hKk : k.toNatClampNeg = K) (hb1 : N * 4 ≤ 536870912) (hb2 : K * 4 ≤ 536870912) (hcells : cells + (1 + N) ≤ R.cells) (hslots : slots + (N + N * K) ≤ R.slots) (hdg : decode cc pc = .ok (.multianewarray index 2, 4))
    (kk : ∀ (q : Nat) (fO : Nat → Option Nat) (H1 : Heap), (∀ i, fO i = if i < N then some (q + 1 + i) else none) → va_P G cl (ws ++ mzW c3 q N K fO) H1 → va_D A (ws ++ mzW c3 q N K fO) → va_S A H0 H1 locs → W p l e R s m args below meth c H1 locs (cells + 1 + N) (slots + N + N * K) Q (F0 m (pc + 4) ls (.ref q :: rest))) : W p l e R s m args below meth c H locs cells slots Q (F0 m pc ls (.int k :: .int n :: rest)) := by
  subst hN
  subst hKk
  intro T hT X
  obtain ⟨vm₁, X', step⟩ := mz_step X hx hown hclink hao (g := F0 m pc ls (.int k :: .int n :: rest)) rfl (by rw [hb]; exact hdg) (rest := rest) rfl hn hk hb1 hb2 hcells hslots
  have hTh : (T.setVm vm₁).heap = H := hT
  obtain ⟨f1, f2, -, -⟩ := mzS_facts (T.setVm vm₁) c3.2.2 c3.1 n.toNatClampNeg k.toNatClampNeg n.toNatClampNeg
  have fold : ∀ q : Nat, q < H.size → (mzS (T.setVm vm₁) c3.2.2 c3.1 n.toNatClampNeg k.toNatClampNeg n.toNatClampNeg).heap[q]? = H[q]? := fun q hq => by
    rw [mzS_old (T.setVm vm₁) c3.2.2 c3.1 n.toNatClampNeg k.toNatClampNeg (q := q) (by rw [hTh]; exact hq), hTh]
  have frow : ∀ j, j < n.toNatClampNeg → (mzS (T.setVm vm₁) c3.2.2 c3.1 n.toNatClampNeg k.toNatClampNeg n.toNatClampNeg).heap[H.size + 1 + j]? = some (mzI c3.1 k.toNatClampNeg) := fun j hj => by
    have := mzS_row (T.setVm vm₁) c3.2.2 c3.1 n.toNatClampNeg k.toNatClampNeg n.toNatClampNeg j hj
    rw [hTh] at this
    exact this
  rw [hTh] at f1 f2
  generalize mzS (T.setVm vm₁) c3.2.2 c3.1 n.toNatClampNeg k.toNatClampNeg n.toNatClampNeg = F at X' step f1 f2 fold frow
  have hcell : mzO c3.2.2 n.toNatClampNeg H.size n.toNatClampNeg = vp_cell c3.2.2 (n.toNatClampNeg, .inr (.inr (.inr (.inr (fun i => if i < n.toNatClampNeg then some (H.size + 1 + i) else none))))) := by
    rw [vp_cell_q]
    unfold mzO
    congr 1
    funext j
    by_cases hj : j < n.toNatClampNeg
    · simp [hj, va_rf]
    · simp [hj, va_rf]
  rw [hcell] at f2
  have hnew : ∀ (k' : Nat) (x : Nat × va_E), (mzW c3 H.size n.toNatClampNeg k.toNatClampNeg (fun i => if i < n.toNatClampNeg then some (H.size + 1 + i) else none))[k']? = some x → va_at G cl x F.heap ∧ x.1 = H.size + k' := by
    intro k' x hx
    cases k' with
    | zero => cases hx; exact ⟨f2, rfl⟩
    | succ k' =>
      unfold mzW at hx
      rw [List.getElem?_cons_succ, List.getElem?_map] at hx
      by_cases hk' : k' < n.toNatClampNeg
      · rw [List.getElem?_range hk'] at hx
        cases hx
        exact ⟨frow k' hk', by show H.size + 1 + k' = H.size + (k' + 1); omega⟩
      · rw [List.getElem?_eq_none (by rw [List.length_range]; omega)] at hx
        cases hx
  have hPn : va_P G cl ws F.heap := hP.kept (fun k' x hx => fold _ ((hP k' x hx).lt))
  obtain ⟨t, a1, b1⟩ := kk H.size (fun i => if i < n.toNatClampNeg then some (H.size + 1 + i) else none) F.heap (fun _ => rfl) (hPn.app (fun k' x hx => (hnew k' x hx).1))
    (hD.app ⟨fun i j x y hi hj hxy => by have e1 := (hnew i x hi).2; have e2 := (hnew j y hj).2; omega, fun k' x hx => hA _ (by have e1 := (hnew k' x hx).2; have := hS.1; omega)⟩ (fun i j x y hx hy hxy => by have e1 := (hP i x hx).lt; have e2 := (hnew j y hy).2; omega))
    ⟨by rw [f1]; have := hS.1; omega, fun q h1 h2 => by rw [fold q (Nat.lt_of_lt_of_le h1 hS.1)]; exact hS.2.1 q h1 h2, hS.2.2⟩ F rfl X'
  refine ⟨t, step t ?_, b1⟩
  rw [show T.heap.size = H.size by rw [hT]]
  exact a1
end MZ3
