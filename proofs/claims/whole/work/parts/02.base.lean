/-! ===== the tables' words that every call keeps; the words of nest mates and of casts ===== -/
def gw : List Cond := lw_tbl.filter goodWord
theorem gw_of {w : Cond} (h : w ∈ lw_tbl) (hg : goodWord w = true) : w ∈ gw := List.mem_filter.mpr ⟨h, hg⟩
theorem gw_tbl {w : Cond} (h : w ∈ gw) : w ∈ lw_tbl := (List.mem_filter.mp h).1
theorem gw_good {w : Cond} (h : w ∈ gw) : (w.onTables && w.keeps) = true ∨ ∃ ty, w = .arrayClass ty := good_of_word (List.mem_filter.mp h).2
theorem gw_in {ws : List Cond} (h : ∀ w ∈ ws, w ∈ gw) : GoodIn gw ws := fun w hw => ⟨h w hw, gw_good (h w hw)⟩
theorem gw_one {w : Cond} (h : w ∈ gw) : GoodIn gw [w] := gw_in (fun v hv => by rw [List.mem_singleton.mp hv]; exact h)
theorem tb_0 {w : Cond} (h : w ∈ k2_sels lw_privs) : w ∈ lw_tbl := List.mem_append_left _ h
theorem tb_1 {w : Cond} (h : w ∈ tables_1_1) : w ∈ lw_tbl := List.mem_append_right _ (List.mem_append_left _ h)
theorem tb_2 {w : Cond} (h : w ∈ tables_1_2) : w ∈ lw_tbl := List.mem_append_right _ (List.mem_append_right _ (List.mem_append_left _ h))
theorem tb_3 {w : Cond} (h : w ∈ tables_1_3) : w ∈ lw_tbl := List.mem_append_right _ (List.mem_append_right _ (List.mem_append_right _ (List.mem_append_left _ h)))
theorem tb_4 {w : Cond} (h : w ∈ tables_1_4) : w ∈ lw_tbl := List.mem_append_right _ (List.mem_append_right _ (List.mem_append_right _ (List.mem_append_right _ h)))
theorem sl_of {q : MethodName × Nat} (h : q ∈ lw_privs) : Cond.selects q.1.cls q.1 q.1 ∈ gw := gw_of (tb_0 (List.mem_map.mpr ⟨q, h, rfl⟩)) rfl
/-- links to nest mates: own class, index, method; the host is ExamDesk -/
def nl_all : List (String × Nat × MethodName) := [("ExamDesk", 25, ⟨"ExamDesk$Rota", "<init>", "()V"⟩), ("ExamDesk$Timetable", 61, ⟨"ExamDesk", "with", "(IIZ)I"⟩), ("ExamDesk$Timetable", 57, ⟨"ExamDesk", "has", "(II)Z"⟩), ("ExamDesk$Planner", 71, ⟨"ExamDesk", "with", "(IIZ)I"⟩), ("ExamDesk$Rooms", 46, ⟨"ExamDesk", "isBelow", "(II)Z"⟩), ("ExamDesk$Rooms", 54, ⟨"ExamDesk", "placeAt", "(III)I"⟩), ("ExamDesk$Rota", 70, ⟨"ExamDesk", "has", "(II)Z"⟩), ("ExamDesk$Rota", 66, ⟨"ExamDesk", "with", "(IIZ)I"⟩)]
def cs_all : List (String × String) := [("java/util/NoSuchElementException", "java/util/NoSuchElementException"), ("java/lang/IllegalArgumentException", "java/lang/IllegalArgumentException"), ("java/lang/IllegalStateException", "java/lang/IllegalStateException")]
def evT (U : State) : Prop := (∀ w ∈ gw, ∀ a : Array Value, w.before a U = true) ∧ (∀ q ∈ nl_all, va_Nw (.methodLinkNest q.1 q.2.1 q.2.2 "ExamDesk") U) ∧ (∀ q ∈ cs_all, va_Nw (.castable q.1 q.2) U)
theorem evT.warm {s U : State} (hW : s.WarmedH U.vm) (h : evT s) : evT U :=
  ⟨fun w hw a => word_at hW (gw_good hw) (h.1 w hw #[]), fun q hq => va_Nw.warmM hW (h.2.1 q hq), fun q hq => va_Nw.warmC hW (h.2.2 q hq)⟩
theorem evT.calling {U : State} {g : JFrame} {mk : MethodId} {a : Array Value} (h : evT U) : evT (U.calling g mk a) := evT.warm (State.WarmedH.refl U) h
theorem evT.hts {s : State} (h : evT s) (args : Array Value) : ∀ w ∈ gw, w.before args s = true := fun w hw => h.1 w hw args

/-! ===== a memory: which cell, which place ===== -/
abbrev Mem : Type := Nat → Nat → Int32
def up2 (M : Mem) (k i : Nat) (x : Int32) : Mem := fun j => if j = k then upd (M j) i x else M j
theorem up2_same (M : Mem) (k i : Nat) (x : Int32) : up2 M k i x k = upd (M k) i x := if_pos rfl
theorem up2_ne {M : Mem} {k i j : Nat} {x : Int32} (h : j ≠ k) : up2 M k i x j = M j := if_neg h
theorem up2_at (M : Mem) (k i : Nat) (x : Int32) : up2 M k i x k i = x := by rw [up2_same]; exact pk_us
theorem up2_off {M : Mem} {k i j n : Nat} {x : Int32} (h : ¬ (j = k ∧ n = i)) : up2 M k i x j n = M j n := by
  by_cases hj : j = k
  · subst hj; rw [up2_same]; exact pk_un (fun e => h ⟨rfl, e⟩)
  · rw [up2_ne hj]
/-- a cell's kind: (0, n, _) ints; (1, n, _) booleans; (2, n, _) references to the n cells behind it; (3, c, fields) an object of class c: a field is a reference to a cell (inl) or a number (inr) -/
abbrev Kd : Type := Nat × Nat × List (Nat ⊕ Nat)
def wfld (ad : Nat → Nat) (f : Nat → Int32) : Nat ⊕ Nat → Value
  | .inl j => .ref (ad j)
  | .inr i => .int (f i)
def wcell (c3 : ClassId × ClassId × ClassId) (ad : Nat → Nat) (f : Nat → Int32) (k : Nat) (d : Kd) : va_E := match d with
  | (0, n, _) => .inl (c3.1, n, .inl f)
  | (1, n, _) => .inl (c3.2.1, n, .inl f)
  | (2, n, _) => .inl (c3.2.2, n, .inr (.inr (.inr (.inr (fun i => if i < n then some (ad (k + 1 + i)) else none)))))
  | (_, ci, fl) => .inr (ci, fl.map (wfld ad f))
def wd (S : List Kd) (c3 : ClassId × ClassId × ClassId) (ad : Nat → Nat) (M : Mem) : va_W := (List.range S.length).map (fun k => (ad k, wcell c3 ad (M k) k (S.getD k (0, 0, []))))
abbrev ty3 (c3 : ClassId × ClassId × ClassId) : List (ClassId × FieldType) := [(c3.1, .int), (c3.2.1, .boolean), (c3.2.2, .array .int)]
def adA (S : List Kd) (ad : Nat → Nat) : Nat → Prop := fun q => ∃ k, k < S.length ∧ q = ad k
def adI (S : List Kd) (ad : Nat → Nat) : Prop := ∀ i j, i < S.length → j < S.length → ad i = ad j → i = j
theorem wd_len (S : List Kd) (c3 : ClassId × ClassId × ClassId) (ad : Nat → Nat) (M : Mem) : (wd S c3 ad M).length = S.length := by simp [wd]
theorem wd_at {S : List Kd} {c3 : ClassId × ClassId × ClassId} {ad : Nat → Nat} {M : Mem} {k : Nat} {d : Kd} (h : S[k]? = some d) : (wd S c3 ad M)[k]? = some (ad k, wcell c3 ad (M k) k d) := by
  have hk : k < S.length := (List.getElem?_eq_some_iff.mp h).1
  have hd : S.getD k (0, 0, []) = d := by rw [List.getD_eq_getElem?_getD, h]; rfl
  unfold wd
  rw [List.getElem?_map, List.getElem?_range hk, Option.map_some, hd]
theorem wd_get {S : List Kd} {c3 : ClassId × ClassId × ClassId} {ad : Nat → Nat} {M : Mem} {k : Nat} {q : Nat × va_E} (h : (wd S c3 ad M)[k]? = some q) : k < S.length ∧ q.1 = ad k := by
  have hk : k < S.length := by rw [← wd_len S c3 ad M]; exact (List.getElem?_eq_some_iff.mp h).1
  unfold wd at h
  rw [List.getElem?_map, List.getElem?_range hk, Option.map_some] at h
  exact ⟨hk, by rw [← Option.some.inj h]⟩
theorem wd_set {S : List Kd} {c3 : ClassId × ClassId × ClassId} {ad : Nat → Nat} {M M' : Mem} {k : Nat} {d : Kd} (h : S[k]? = some d) (hM : ∀ j, j ≠ k → M' j = M j) : (wd S c3 ad M).set k (ad k, wcell c3 ad (M' k) k d) = wd S c3 ad M' := by
  apply List.ext_getElem?
  intro j
  by_cases hj : j < S.length
  · have hd : S[j]? = some (S.getD j (0, 0, [])) := by rw [List.getD_eq_getElem?_getD, List.getElem?_eq_getElem hj]; rfl
    by_cases hjk : j = k
    · subst hjk
      rw [List.getElem?_set_self (by rw [wd_len]; exact hj), wd_at h]
    · rw [List.getElem?_set_ne (Ne.symm hjk), wd_at hd, wd_at hd, hM j hjk]
  · rw [List.getElem?_eq_none (by rw [List.length_set, wd_len]; omega), List.getElem?_eq_none (by rw [wd_len]; omega)]
theorem wd_D {S : List Kd} {c3 : ClassId × ClassId × ClassId} {ad : Nat → Nat} {M : Mem} (h : adI S ad) : va_D (adA S ad) (wd S c3 ad M) := by
  refine ⟨fun i j p q hi hj e => ?_, fun k q hk => ?_⟩
  · obtain ⟨h1, e1⟩ := wd_get hi
    obtain ⟨h2, e2⟩ := wd_get hj
    exact h i j h1 h2 (by rw [← e1, ← e2]; exact e)
  · obtain ⟨h1, e1⟩ := wd_get hk
    exact ⟨k, h1, e1⟩
theorem up2_o {M : Mem} {k i : Nat} {x : Int32} : ∀ j, j ≠ k → up2 M k i x j = M j := fun _ h => up2_ne h

/-! ===== pure programs: guards, names, loops ===== -/
noncomputable def xgd {α : Type} (c : Prop) (x : Option α) : Option α := @ite _ c (Classical.propDecidable c) x none
theorem xgd_some {α : Type} {c : Prop} {x : Option α} {r : α} (h : xgd c x = some r) : c ∧ x = some r := by
  unfold xgd at h
  by_cases hc : c
  · rw [if_pos hc] at h; exact ⟨hc, h⟩
  · rw [if_neg hc] at h; cases h
theorem xgd_pos {α : Type} {c : Prop} (hc : c) (x : Option α) : xgd c x = x := if_pos hc
def xlt {α β : Type} (x : α) (k : α → β) : β := k x
theorem xlt_some {α β : Type} {x : α} {k : α → β} {r : β} (h : xlt x k = r) : ∃ y, x = y ∧ k y = r := ⟨x, rfl, h⟩
theorem xlt_eq {α β : Type} (x : α) (k : α → β) : xlt x k = k x := rfl
def xbd {α β : Type} (x : Option α) (k : α → Option β) : Option β := x.bind k
theorem xbd_some {α β : Type} {x : Option α} {k : α → Option β} {r : β} (h : xbd x k = some r) : ∃ y, x = some y ∧ k y = some r := by
  cases x with
  | none => cases h
  | some y => exact ⟨y, rfl, h⟩
theorem xbd_eq {α β : Type} (y : α) (k : α → Option β) : xbd (some y) k = k y := rfl
theorem ite_t {α : Type} {c : Prop} [Decidable c] {x y r : α} (hc : c) (h : (if c then x else y) = r) : x = r := by rw [if_pos hc] at h; exact h
theorem ite_f {α : Type} {c : Prop} [Decidable c] {x y r : α} (hc : ¬ c) (h : (if c then x else y) = r) : y = r := by rw [if_neg hc] at h; exact h
def xwh {σ ρ : Type} (b : σ → Option (ρ ⊕ σ)) : Nat → σ → Option ρ
  | 0, _ => none
  | n + 1, s => (b s).bind (fun o => Sum.elim (fun r => some r) (fun s' => xwh b n s') o)
noncomputable def xlp {σ ρ : Type} (b : σ → Option (ρ ⊕ σ)) (s : σ) : Option ρ := @dite _ (∃ r, ∃ n, xwh b n s = some r) (Classical.propDecidable _) (fun h => some (Classical.choose h)) (fun _ => none)
theorem xwh_s {σ ρ : Type} {b : σ → Option (ρ ⊕ σ)} {n : Nat} {s : σ} {r : ρ} (h : xwh b (n + 1) s = some r) : ∃ o, b s = some o ∧ Sum.elim (fun r' => some r') (fun s' => xwh b n s') o = some r := by
  unfold xwh at h
  cases hb : b s with
  | none => rw [hb] at h; cases h
  | some o => rw [hb] at h; exact ⟨o, rfl, h⟩
theorem xwh_det {σ ρ : Type} {b : σ → Option (ρ ⊕ σ)} : ∀ {n m : Nat} {s : σ} {r r' : ρ}, xwh b n s = some r → xwh b m s = some r' → r = r'
  | 0, _, _, _, _, h, _ => by cases h
  | _ + 1, 0, _, _, _, _, h => by cases h
  | n + 1, m + 1, s, r, r', h, h' => by
    obtain ⟨o, h1, h2⟩ := xwh_s h
    obtain ⟨o', h1', h2'⟩ := xwh_s h'
    rw [h1] at h1'
    cases h1'
    cases o with
    | inl x => exact Option.some.inj (h2.symm.trans h2')
    | inr x => exact xwh_det h2 h2'
theorem xlp_n {σ ρ : Type} {b : σ → Option (ρ ⊕ σ)} {s : σ} {r : ρ} (h : xlp b s = some r) : ∃ n, xwh b n s = some r := by
  unfold xlp at h
  by_cases hc : ∃ r, ∃ n, xwh b n s = some r
  · rw [dif_pos hc] at h
    obtain ⟨n, hn⟩ := Classical.choose_spec hc
    exact ⟨n, by rw [hn]; exact h⟩
  · rw [dif_neg hc] at h; cases h
theorem xlp_of {σ ρ : Type} {b : σ → Option (ρ ⊕ σ)} {n : Nat} {s : σ} {r : ρ} (h : xwh b n s = some r) : xlp b s = some r := by
  have hc : ∃ r, ∃ n, xwh b n s = some r := ⟨r, n, h⟩
  unfold xlp
  rw [dif_pos hc]
  obtain ⟨n', hn⟩ := Classical.choose_spec hc
  rw [xwh_det hn h]
theorem xwh_1 {σ ρ : Type} {b : σ → Option (ρ ⊕ σ)} {n : Nat} {s : σ} {o : ρ ⊕ σ} (h : b s = some o) : xwh b (n + 1) s = Sum.elim (fun r => some r) (fun s' => xwh b n s') o := by
  show (b s).bind _ = _
  rw [h]
  rfl
/-- a loop runs through the states I i .. I K, and leaves with r -/
theorem xlp_run {σ ρ : Type} {b : σ → Option (ρ ⊕ σ)} {r : ρ} (I : Nat → σ) (K : Nat) (hs : ∀ i, i < K → b (I i) = some (.inr (I (i + 1)))) (he : b (I K) = some (.inl r)) : ∀ i, i ≤ K → xlp b (I i) = some r := by
  have key : ∀ d i, i + d = K → xwh b (d + 1) (I i) = some r := by
    intro d
    induction d with
    | zero => intro i hi; have : i = K := by omega
              subst this; rw [xwh_1 he]; rfl
    | succ d ih => intro i hi; rw [xwh_1 (hs i (by omega))]; exact ih (i + 1) (by omega)
  intro i hi
  exact xlp_of (key (K - i) i (by omega))
/-- one turn -/
theorem xlp_go {σ ρ : Type} {b : σ → Option (ρ ⊕ σ)} {s s' : σ} (h : b s = some (.inr s')) : xlp b s = xlp b s' := by
  cases h2 : xlp b s' with
  | some r => obtain ⟨n, hn⟩ := xlp_n h2; exact xlp_of (n := n + 1) (by rw [xwh_1 h]; exact hn)
  | none =>
    cases h3 : xlp b s with
    | none => rfl
    | some r =>
      obtain ⟨n, hn⟩ := xlp_n h3
      cases n with
      | zero => cases hn
      | succ n => rw [xwh_1 h] at hn; have := xlp_of (b := b) (s := s') hn; rw [h2] at this; cases this
theorem xlp_end {σ ρ : Type} {b : σ → Option (ρ ⊕ σ)} {s : σ} {r : ρ} (h : b s = some (.inl r)) : xlp b s = some r := xlp_of (n := 1) (by rw [xwh_1 h]; rfl)
