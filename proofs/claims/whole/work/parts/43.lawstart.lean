/-! ===== the law's start ===== -/
section ST0
variable {p : Program} {s : State} {m : MethodId} {meth : Method} {c : Code} {b L : Nat} {xs : Nat → Int32}
theorem st_T (C0 : lw_At p s m meth c b L xs) : evT s := by
  have hts := C0.2.2.2.2.2.1
  exact ⟨fun w hw a => word_at (State.WarmedH.refl s) (gw_good hw) (hts w (gw_tbl hw)), List.forall_mem_cons.mpr ⟨va_Nw.of rfl (hts _ (tb_1 (List.mem_of_getElem? (i := 137) rfl))), List.forall_mem_cons.mpr ⟨va_Nw.of rfl (hts _ (tb_1 (List.mem_of_getElem? (i := 207) rfl))), List.forall_mem_cons.mpr ⟨va_Nw.of rfl (hts _ (tb_1 (List.mem_of_getElem? (i := 218) rfl))), List.forall_mem_cons.mpr ⟨va_Nw.of rfl (hts _ (tb_1 (List.mem_of_getElem? (i := 236) rfl))), List.forall_mem_cons.mpr ⟨va_Nw.of rfl (hts _ (tb_2 (List.mem_of_getElem? (i := 233) rfl))), List.forall_mem_cons.mpr ⟨va_Nw.of rfl (hts _ (tb_3 (List.mem_of_getElem? (i := 37) rfl))), List.forall_mem_cons.mpr ⟨va_Nw.of rfl (hts _ (tb_3 (List.mem_of_getElem? (i := 108) rfl))), List.forall_mem_cons.mpr ⟨va_Nw.of rfl (hts _ (tb_3 (List.mem_of_getElem? (i := 109) rfl))), fun _ h => absurd h List.not_mem_nil⟩⟩⟩⟩⟩⟩⟩⟩, List.forall_mem_cons.mpr ⟨va_Nw.of rfl (hts _ (tb_2 (List.mem_of_getElem? (i := 50) rfl))), List.forall_mem_cons.mpr ⟨va_Nw.of rfl (hts _ (tb_2 (List.mem_of_getElem? (i := 124) rfl))), List.forall_mem_cons.mpr ⟨va_Nw.of rfl (hts _ (tb_3 (List.mem_of_getElem? (i := 3) rfl))), fun _ h => absurd h List.not_mem_nil⟩⟩⟩⟩
theorem st_str {A : Array Value} {own : String} {k : Nat} {tx : String} (h1 : (Cond.stringRef own k tx).before A s = true) (h2 : (Cond.exactly (.string own k) "java/lang/String").before A s = true) : ∃ a, vk_R own k tx a s := by
  cases hv : (Term.string own k).eval A s none [] s with
  | none => simp [Cond.before, Cond.holds, Cond.value, hv] at h2
  | some v =>
    cases v with
    | ref a => exact ⟨a, vk_R.of h1 hv⟩
    | _ => simp only [Cond.before, Cond.holds, Cond.value, hv] at h2; cases hf : s.vm.findClass "java/lang/String" <;> simp [hf] at h2
theorem st_X (C0 : lw_At p s m meth c b L xs) : evX s.heap.size s := by
  have hts := C0.2.2.2.2.2.1
  have hs := flat_of_before _ C0.2.2.2.2.2.2.2.2.2
  exact ⟨zst.of (Nat.le_refl _) (hts _ (tb_2 (List.mem_of_getElem? (i := 75) rfl))) (hs _ (by decide +kernel)), zst.of (Nat.le_refl _) (hts _ (tb_2 (List.mem_of_getElem? (i := 77) rfl))) (hs _ (by decide +kernel)), List.forall_mem_cons.mpr ⟨st_str (hts _ (tb_2 (List.mem_of_getElem? (i := 89) rfl))) (hs _ (by decide +kernel)), List.forall_mem_cons.mpr ⟨st_str (hts _ (tb_2 (List.mem_of_getElem? (i := 131) rfl))) (hs _ (by decide +kernel)), List.forall_mem_cons.mpr ⟨st_str (hts _ (tb_3 (List.mem_of_getElem? (i := 10) rfl))) (hs _ (by decide +kernel)), List.forall_mem_cons.mpr ⟨st_str (hts _ (tb_3 (List.mem_of_getElem? (i := 24) rfl))) (hs _ (by decide +kernel)), List.forall_mem_cons.mpr ⟨st_str (hts _ (tb_3 (List.mem_of_getElem? (i := 167) rfl))) (hs _ (by decide +kernel)), fun _ h => absurd h List.not_mem_nil⟩⟩⟩⟩⟩, List.forall_mem_cons.mpr ⟨va_Nw.of rfl (hts _ (tb_2 (List.mem_of_getElem? (i := 52) rfl))), List.forall_mem_cons.mpr ⟨va_Nw.of rfl (hts _ (tb_2 (List.mem_of_getElem? (i := 54) rfl))), List.forall_mem_cons.mpr ⟨va_Nw.of rfl (hts _ (tb_2 (List.mem_of_getElem? (i := 56) rfl))), fun _ h => absurd h List.not_mem_nil⟩⟩⟩, ncst.of (hs (.not (.castable "java/lang/IllegalArgumentException" "java/util/NoSuchElementException")) (by decide +kernel)), ncst.of (hs (.not (.castable "java/lang/IllegalStateException" "java/util/NoSuchElementException")) (by decide +kernel))⟩
theorem st_over {A : Array Value} (h : (Cond.arrayOver (.array .int)).before A s = true) : ∃ comp cA kA, s.vm.findClass "[I" = some comp ∧ s.vm.classes[cA]? = some kA ∧ kA.kind = .array comp (.array .int) ∧ s.vm.findClass "[[I" = some cA := by
  have e1 : (FieldType.array .int).toString = "[I" := by decide +kernel
  have e2 : "[" ++ (FieldType.array .int).toString = "[[I" := by decide +kernel
  simp only [Cond.before, Cond.holds, Cond.value, beq_iff_eq] at h
  cases hc : s.vm.findClass (FieldType.array .int).toString with
  | none => simp [hc] at h
  | some comp =>
    simp only [hc, Option.bind_some, Option.bind_eq_some_iff, Option.map_eq_some_iff] at h
    obtain ⟨cA, hi, kA, hk, hb⟩ := h
    obtain ⟨hlt, hp, -⟩ := Array.findIdx?_eq_some_iff_getElem.mp hi
    have ek : s.vm.classes[cA] = kA := by rw [Array.getElem?_eq_getElem hlt] at hk; exact Option.some.inj hk
    rw [ek] at hp
    cases hkk : kA.kind with
    | array cm ty =>
      rw [hkk] at hp hb
      simp only [beq_iff_eq] at hp
      simp only [Bool.and_eq_true, decide_eq_true_eq] at hb
      exact ⟨comp, cA, kA, by rw [← e1]; exact hc, hk, by rw [hkk, hp, hb.1], by rw [← e2]; exact hb.2⟩
    | _ => rw [hkk] at hp; simp at hp
theorem st_K (C0 : lw_At p s m meth c b L xs) : ∃ (G : va_G) (c3 : ClassId × ClassId × ClassId), va_K G kl (ty3 c3) s ∧ aoK c3 s := by
  have hT := st_T C0
  obtain ⟨cP, iP, gP⟩ := u_known (hT.hts #[]) inP (hT.1 _ wb_P #[])
  obtain ⟨cR, iR, gR⟩ := u_known (hT.hts #[]) inR (hT.1 _ wb_R #[])
  obtain ⟨cO, iO, gO⟩ := u_known (hT.hts #[]) inO (hT.1 _ wb_O #[])
  obtain ⟨cT, iT, gT⟩ := u_known (hT.hts #[]) inT (hT.1 _ wb_T #[])
  obtain ⟨cE, iE, gE⟩ := u_known (hT.hts #[]) inE (hT.1 _ wb_E #[])
  obtain ⟨cM, iM, gM⟩ := u_known (hT.hts #[]) inM (hT.1 _ wb_M #[])
  obtain ⟨comp, cA, kA, q1, q2, q3, q4⟩ := st_over (s := s) (A := #[Value.ref b]) (C0.2.2.2.2.2.1 _ (tb_1 (List.mem_of_getElem? (i := 30) rfl)))
  obtain ⟨cI, kI, xI, a1, a2, a3⟩ := Cond.arrayClass_spec (hT.1 _ wa_int #[])
  obtain ⟨cZ, kZ, xZ, z1, z2, z3⟩ := Cond.arrayClass_spec (hT.1 _ wa_boolean #[])
  have eI : cI = comp := by
    have h9 : s.vm.findClass "[I" = some cI := a1
    rw [q1] at h9; exact (Option.some.inj h9).symm
  subst eI
  refine ⟨(fun k => match k with | 0 => cP | 1 => cR | 2 => cO | 3 => cT | 4 => cE | _ => cM, fun k => match k with | 0 => iP | 1 => iR | 2 => iO | 3 => iT | 4 => iE | _ => iM), (cI, cZ, cA), ⟨?_, ?_⟩, ⟨kA, kI, xI, q2, q3, a2, a3, q4⟩⟩
  · intro k q hk
    match k, hk with
    | 0, hk => cases hk; exact gP
    | 1, hk => cases hk; exact gR
    | 2, hk => cases hk; exact gO
    | 3, hk => cases hk; exact gT
    | 4, hk => cases hk; exact gE
    | 5, hk => cases hk; exact gM
    | n + 6, hk => cases hk
  · intro k q hk
    match k, hk with
    | 0, hk => cases hk; exact ⟨fun n z => ⟨fun k h => (by cases h), kI, a2, xI, a3⟩, a1⟩
    | 1, hk => cases hk; exact ⟨fun n z => ⟨fun k h => (by cases h), kZ, z2, xZ, z3⟩, z1⟩
    | 2, hk => cases hk; exact ⟨fun n z => ⟨fun k h => (by cases h), kA, q2, cI, q3⟩, q4⟩
    | n + 3, hk => cases hk
end ST0
theorem pl_ {G : va_G} {cl : List vw_C} {w1 w2 : va_W} {H : Heap} (h : va_P G cl (w1 ++ w2) H) : va_P G cl w1 H := fun k q hk => h k q (by rw [List.getElem?_append_left (List.getElem?_eq_some_iff.mp hk).1]; exact hk)
theorem pr_ {G : va_G} {cl : List vw_C} {w1 w2 : va_W} {H : Heap} (h : va_P G cl (w1 ++ w2) H) : va_P G cl w2 H := fun k q hk => h (w1.length + k) q (by rw [List.getElem?_append_right (Nat.le_add_right _ _), Nat.add_sub_cancel_left]; exact hk)
theorem dl_ {A : Nat → Prop} {w1 w2 : va_W} (h : va_D A (w1 ++ w2)) : va_D A w1 := ⟨fun i j x y hi hj e => h.1 i j x y (by rw [List.getElem?_append_left (List.getElem?_eq_some_iff.mp hi).1]; exact hi) (by rw [List.getElem?_append_left (List.getElem?_eq_some_iff.mp hj).1]; exact hj) e, fun k q hk => h.2 k q (by rw [List.getElem?_append_left (List.getElem?_eq_some_iff.mp hk).1]; exact hk)⟩
theorem dr_ {A : Nat → Prop} {w1 w2 : va_W} (h : va_D A (w1 ++ w2)) : va_D A w2 := ⟨fun i j x y hi hj e => Nat.add_left_cancel (h.1 (w1.length + i) (w1.length + j) x y (by rw [List.getElem?_append_right (Nat.le_add_right _ _), Nat.add_sub_cancel_left]; exact hi) (by rw [List.getElem?_append_right (Nat.le_add_right _ _), Nat.add_sub_cancel_left]; exact hj) e), fun k q hk => h.2 (w1.length + k) q (by rw [List.getElem?_append_right (Nat.le_add_right _ _), Nat.add_sub_cancel_left]; exact hk)⟩
theorem dx_ {A : Nat → Prop} {w1 w2 : va_W} (h : va_D A (w1 ++ w2)) {i j : Nat} {x y : Nat × va_E} (hi : w1[i]? = some x) (hj : w2[j]? = some y) : x.1 ≠ y.1 := fun e => by
  have hl := (List.getElem?_eq_some_iff.mp hi).1
  have := h.1 i (w1.length + j) x y (by rw [List.getElem?_append_left hl]; exact hi) (by rw [List.getElem?_append_right (Nat.le_add_right _ _), Nat.add_sub_cancel_left]; exact hj) e
  omega
set_option maxHeartbeats 8000000 in
set_option maxRecDepth 100000 in
theorem lw_start {p : Program} {e : Env} {s : State} {m : MethodId} {below : List Frame} {meth : Method} {c : Code} (l : Launch) (hfl : l.flags = flags0) {b L : Nat} {xs : Nat → Int32} (hL : L ≤ 2560) (C0 : lw_At p s m meth c b L xs) {R : Mem → Mem → Prop} (S : Sims R) (mP mT mR mO mY : Mem) (hP0 : fP_init ((fun _ _ => 0) : Mem) = some mP) (hTt : fT_init ((fun k => if k < 11 then (fun _ => 0) else mP (k - 11)) : Mem) = some mT) (hRr : fR_init ((fun _ _ => 0) : Mem) = some mR) (hOo : fO_init ((fun _ _ => 0) : Mem) = some mO) (hMm : fM_init ((fun _ _ => 0) : Mem) = some mY) (hR : R ((fun k => if k < 1 then (fun _ => 0) else if k < 18 then mT (k - 1) else if k < 44 then mR (k - 18) else mO (k - 44)) : Mem) mY) : W p l e room_1 s m #[Value.ref b] below meth c s.heap [] 0 0 (lw_Z below #[Value.ref b] s) (entryFrame m ([Value.ref b] : List Value).toArray 7) := by
  have hT := st_T C0
  have hX := st_X C0
  obtain ⟨G, c3, hK, hao⟩ := st_K C0
  obtain ⟨hx, hb, hr, hml, hown, hts, hXs, hbl, hlk, -⟩ := C0
  have F : CallFix p m c cL_law 7 s #[Value.ref b] gw RL := ⟨hx, hb, hml, hown, hT.hts _⟩
  have hl := lv_entry [Value.ref b] (n := 7) (Nat.le_of_ble_eq_true rfl)
  rw [lg_entry_eq]
  generalize ((lg_sl [Value.ref b] ++ List.replicate (7 - (lg_sl [Value.ref b]).length) Slot.unset).toArray) = ls at hl ⊢
  have hl : lv_has ls 7 [(0, .ref b)] := hl
  have hP : va_P G kl [] s.heap := fun k q hk => by cases hk
  have hD : va_D (fun q => s.heap.size ≤ q) ([] : va_W) := ⟨fun i j x y hi => (by cases hi), fun k q hk => (by cases hk)⟩
  have hS : va_S (fun q => s.heap.size ≤ q) s.heap s.heap [] := va_S.rf
  have hA : ∀ q : Nat, s.heap.size ≤ q → s.heap.size ≤ q := fun _ h => h
  refine va_new (ci := 4) (fs := [.null, .null, .null]) (C := RE) (T := TE) (N := 3) hx hb (hT.hts _) inE tyE tkE hown (hT.1 _ wq_L_8 _) (hT.1 _ wb_E _) (hT.1 _ wn_E _) hK hP hD hS hA rfl (fun j hj => by
    match j, hj with
    | 0, _ => rfl
    | 1, _ => rfl
    | 2, _ => rfl
    | n + 3, h => exact absurd h (by omega)) (by decide) (by decide) d_L_law_0 (fun qX H hP hD hS => ?_)
  have hP : va_P G kl [(qX, .inr (4, [.null, .null, .null]))] H := hP
  have hD : va_D (fun q => s.heap.size ≤ q) ([(qX, .inr (4, [.null, .null, .null]))] : va_W) := hD
  refine lv_dup hx hb d_L_law_3 rfl ?_
  have hqA : s.heap.size ≤ qX := hD.2 0 _ rfl
  have hle0 := hS.1
  refine xc_c (va_runI (n := 0) (As := []) (b := qX) (rest := [.ref qX]) F (zE_init l G c3 H.size qX mP hP0 mT hTt mR hRr mO hOo _ rfl) ⟨callB_of 0 (hT.hts _) (gw_one wc_E_init) rfl rfl rfl (hT.1 _ wn_E _) (hT.1 _ wl_L_81 _) ck_E_init ⟨by decide, by decide⟩, rfl, hT.1 _ wi_E_init _⟩ ⟨okC.blind, fun U hU hW => ⟨rfl, hT.warm hW, va_K.moved hW.alike hK, hao.moved hW.alike, by rw [hU], by rw [hU]; exact hP⟩⟩ rfl rfl hl.1 rfl (lv_room (Nat.le_of_ble_eq_true rfl)) d_L_law_4 ⟨by decide, by decide⟩) hS (fun z h => by rcases h with rfl | h; exact hqA; exact Nat.le_trans hle0 h) (fun adX H1 locs1 hadX hgeX hPX hIX hS hkp hle => ?_)
  generalize hXe : ((fun k => if k < 1 then (fun _ => 0) else if k < 18 then mT (k - 1) else if k < 44 then mR (k - 18) else mO (k - 44)) : Mem) = X0 at hPX hR
  have hgX : ∀ q, adA SX adX q → s.heap.size ≤ q := by
    rintro q ⟨k, hk, rfl⟩
    by_cases h0 : k = 0
    · subst h0; rw [hadX]; exact hqA
    · exact Nat.le_trans hle0 (hgeX k (by omega) hk)
  rw [← hadX]
  refine lv_astore_n (lv' := [(1, .ref (adX 0)), (0, .ref b)]) hx hb d_L_law_7 rfl hl (by decide) rfl (fun ls hl => ?_)
  have hDX : va_D (fun q => s.heap.size ≤ q) (wd SX c3 adX X0) := (wd_D hIX).weaken (fun k q hk h => hgX _ h)
  refine va_new (ci := 5) (fs := [.int 0, .null, .null, .null, .null, .null, .null, .int 0, .null, .null, .null, .null, .null, .null, .null, .null, .null, .null, .null, .null, .null, .null, .null, .null, .null]) (C := RM) (T := TM) (N := 25) hx hb (hT.hts _) inM tyM tkM hown (hT.1 _ wq_L_82 _) (hT.1 _ wb_M _) (hT.1 _ wn_M _) hK hPX hDX hS hA rfl (fun j hj => by
    match j, hj with
    | 0, _ => rfl
    | 1, _ => rfl
    | 2, _ => rfl
    | 3, _ => rfl
    | 4, _ => rfl
    | 5, _ => rfl
    | 6, _ => rfl
    | 7, _ => rfl
    | 8, _ => rfl
    | 9, _ => rfl
    | 10, _ => rfl
    | 11, _ => rfl
    | 12, _ => rfl
    | 13, _ => rfl
    | 14, _ => rfl
    | 15, _ => rfl
    | 16, _ => rfl
    | 17, _ => rfl
    | 18, _ => rfl
    | 19, _ => rfl
    | 20, _ => rfl
    | 21, _ => rfl
    | 22, _ => rfl
    | 23, _ => rfl
    | 24, _ => rfl
    | n + 25, h => exact absurd h (by omega)) (by decide) (by decide) d_L_law_8 (fun qM H2 hP hD hS => ?_)
  refine lv_dup hx hb d_L_law_11 rfl ?_
  have hPc := pr_ hP
  have hqA2 : s.heap.size ≤ qM := (dr_ hD).2 0 _ rfl
  have hle1 := hS.1
  refine xc_c (va_runI (n := 0) (As := []) (b := qM) (rest := [.ref qM]) F (zM_init l G c3 H2.size qM mY hMm) ⟨callB_of 0 (hT.hts _) (gw_one wc_M_init) rfl rfl rfl (hT.1 _ wn_M _) (hT.1 _ wl_L_84 _) ck_M_init ⟨by decide, by decide⟩, rfl, hT.1 _ wi_M_init _⟩ ⟨okC.blind, fun U hU hW => ⟨rfl, hT.warm hW, va_K.moved hW.alike hK, hao.moved hW.alike, by rw [hU], by rw [hU]; exact hPc⟩⟩ rfl rfl hl.1 rfl (lv_room (Nat.le_of_ble_eq_true rfl)) d_L_law_12 ⟨by decide, by decide⟩) hS (fun z h => by rcases h with rfl | h; exact hqA2; exact Nat.le_trans hle1 h) (fun adM H3 locs3 hadM hgeM hPM hIM hS hkp hle => ?_)
  obtain ⟨hP, hD⟩ := cj_join (ws := wd SX c3 adX X0) hP hD hadM hgeM hPM hIM hkp (fun z h => Nat.le_trans hle1 h)
  rw [← hadM]
  refine lv_astore_n (lv' := [(2, .ref (adM 0)), (1, .ref (adX 0)), (0, .ref b)]) hx hb d_L_law_15 rfl hl (by decide) rfl (fun ls hl => ?_)
  refine lv_iconst (v := 1) hx hb d_L_law_16 rfl ?_
  refine va_newa (atype := .long) hx hb (hT.1 _ wa_long _) (ty := .long) rfl hK hP hD hS hA (a0 := (1, .inr (.inl (fun _ => 0)))) (fun cA => by rw [vp_cell_l]; rfl) (by decide) rfl (by decide) (by decide) (by decide) d_L_law_17 (fun ao cL H4 hK4 hP4 hD4 hS4 => ?_)
  refine lv_astore_n (lv' := [(3, .ref ao), (2, .ref (adM 0)), (1, .ref (adX 0)), (0, .ref b)]) hx hb d_L_law_19 rfl hl (by decide) rfl (fun ls hl => ?_)
  refine lv_iconst (v := nI 0) hx hb d_L_law_20 (by decide) ?_
  refine lv_istore (lv' := [(4, .int (nI 0)), (3, .ref ao), (2, .ref (adM 0)), (1, .ref (adX 0)), (0, .ref b)]) hx hb d_L_law_21 hl (by decide) rfl (fun ls hl => ?_)
  have hD2 := dl_ hD4
  have hgM : ∀ q, adA SM adM q → s.heap.size ≤ q := adA_of (dr_ hD2)
  have hgo : s.heap.size ≤ ao := (dr_ hD4).2 0 _ rfl
  have C : LFix p l s m meth c b L xs G c3 cL adX adM ao := by
    refine ⟨F, hT, hK4, hX, hIX, hIM, hgX, hgM, hgo, ?_, ?_, ?_, hXs, hbl, hL, hfl, hr, hlk⟩
    · rintro q ⟨i, hi, rfl⟩ ⟨j, hj, hq⟩
      exact dx_ hD2 (wd_at (List.getElem?_eq_getElem hi)) (wd_at (List.getElem?_eq_getElem hj)) hq
    · rintro ⟨i, hi, hq⟩
      have h1 := wd_at (c3 := c3) (ad := adX) (M := X0) (List.getElem?_eq_getElem hi)
      exact dx_ hD4 (i := i) (j := 0) (x := (adX i, _)) (by rw [List.getElem?_append_left (by rw [wd_len]; exact hi)]; exact h1) rfl hq.symm
    · rintro ⟨i, hi, hq⟩
      have h1 := wd_at (c3 := c3) (ad := adM) (M := mY) (List.getElem?_eq_getElem hi)
      exact dx_ hD4 (i := (wd SX c3 adX X0).length + i) (j := 0) (x := (adM i, _)) (by rw [List.getElem?_append_right (Nat.le_add_right _ _), Nat.add_sub_cancel_left]; exact h1) rfl hq.symm
  exact lw_loop S C 512 (n := 0) (by omega) (by omega) (by decide) (by decide) hR ⟨pl_ (pl_ hP4), pr_ (pl_ hP4), pr_ hP4, hS4⟩ (lv_sub hl [4, 3, 2, 1, 0] rfl)
