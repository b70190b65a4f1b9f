/-! ===== the law's loop ===== -/
def R_law : String := "ExamDeskLaw"
def lw_P (b : Addr) (xs : List Int32) (args : Array Value) (s : State) : Prop := args = #[.ref b] ∧ s.IntsAt b xs ∧ xs.length ≤ 2560 ∧ (Jvm.Cond.and given_1 narrow_1).before args s = true
def lw_Q (_ : Array Value) (s : State) (o : Outcome) (t : State) : Prop := o = .returned (some (.int 1)) ∧ Framed s o t [] 601024 7293034
def lw_Z (below : List Frame) (a : Array Value) (s : State) : State → Prop := fun t => ∃ o, t.status = .running ∧ Ended t below o ∧ lw_Q a s o t
/-- the law's own end, with 1 on the stack, nothing written that was there before, its room as the claim has it -/
theorem lw_ret {p : Program} {l : Launch} {e : Env} {s : State} {m : MethodId} {below : List Frame} {meth : Method} {c : Code} {b : Nat} (hx : p.tables.exec = Jvm.exec) (hb : c.code = code) (hr : meth.sig.returnType = ret) (hlocks : meth.locks = false) {pc : Nat} {H : Heap} {ls : Array Slot} (hdg : decode code pc = .ok (.ireturn, 1)) : W p l e room_1 s m #[Value.ref b] below meth c H [] 601024 7293034 (lw_Z below #[Value.ref b] s) (F0 m pc ls [.int 1]) := by
  intro T hT X
  obtain ⟨fs, hret, hrun, hended, hW, hframe⟩ := X.leave (v := some (.int 1)) (hlocks := hlocks) (fun h => by rw [hr] at h; cases h)
  have hmeth' : T.vm.method? m = some meth := X.method'
  refine ⟨T.setFrames fs, ?_, .returned (some (.int 1)), hrun, hended, rfl, ⟨_, rfl⟩, hW, hframe⟩
  jvm_step X.here [X.here.top, hx, hb, hdg, hmeth', hr, ret, narrow_b1]
  (try refine ⟨rfl, ?_⟩); (try refine ⟨rfl, ?_⟩)
  first | (intro acts; rw [hret _ acts rfl rfl rfl]) | rw [hret _ _ rfl rfl rfl]
  exact Steps.refl _
/-- what holds at the law's entry: the machine, the code, the tables' words (any of lw_tbl by 'hts w (by decide +kernel)'), the script of L ints xs at the cell b, what the Statement gives of the start (any of its parts by flat_of_before) -/
def lw_At (p : Program) (s : State) (m : MethodId) (meth : Method) (c : Code) (b L : Nat) (xs : Nat → Int32) : Prop :=
  p.tables.exec = Jvm.exec ∧ c.code = code ∧ meth.sig.returnType = ret ∧ c.maxLocals = 7 ∧ s.vm.findClass R_law = some m.cls ∧ (∀ w ∈ lw_tbl, w.before #[Value.ref b] s = true) ∧ va_X b L xs s s.heap ∧ b < s.heap.size ∧ meth.locks = false ∧ (Jvm.Cond.and given_1 narrow_1).before #[Value.ref b] s = true
/-- what class and reference must do alike, from related memories -/
def Sm0 (R : Mem → Mem → Prop) : Prop := ∀ X Y, R X Y → ∀ a1 a2 : Int32, simW2 R (fE_paper a1 a2) (kE_paper a1 a2) 2 (fM_paper a1 a2) X Y
def Sm1 (R : Mem → Mem → Prop) : Prop := ∀ X Y, R X Y → ∀ a1 a2 : Int32, simW2 R (fE_session a1 a2) (kE_session a1 a2) 2 (fM_session a1 a2) X Y
def Sm2 (R : Mem → Mem → Prop) : Prop := ∀ X Y, R X Y → ∀ a1 a2 a3 : Int32, simW1 R (fE_enrol a1 a2 (zb a3)) (kE_enrol a1 a2 (zb a3)) (fM_enrol a1 a2 (zb a3)) X Y
def Sm3 (R : Mem → Mem → Prop) : Prop := ∀ X Y, R X Y → ∀ a1 a2 : Int32, simW1 R (fE_extra a1 (zb a2)) (kE_extra a1 (zb a2)) (fM_extra a1 (zb a2)) X Y
def Sm4 (R : Mem → Mem → Prop) : Prop := ∀ X Y, R X Y → ∀ a1 a2 a3 a4 : Int32, simW2 R (fE_rule a1 a2 a3 (zb a4)) (kE_rule a1 a2 a3 (zb a4)) 2 (fM_rule a1 a2 a3 (zb a4)) X Y
def Sm5 (R : Mem → Mem → Prop) : Prop := ∀ X Y, R X Y → ∀ a1 a2 : Int32, simW1 R (fE_fix a1 a2) (kE_fix a1 a2) (fM_fix a1 a2) X Y
def Sm6 (R : Mem → Mem → Prop) : Prop := ∀ X Y, R X Y → ∀ a1 a2 : Int32, simR1 R (fE_clash a1 a2) (kE_clash a1 a2) 1 (fM_clash a1 a2) X Y
def Sm7 (R : Mem → Mem → Prop) : Prop := ∀ X Y, R X Y → simP R fE_plan fM_plan X Y
def Sm8 (R : Mem → Mem → Prop) : Prop := ∀ X Y, R X Y → ∀ a1 : Int32, simR1 R (fE_planned a1) (kE_planned a1) 1 (fM_planned a1) X Y
def Sm9 (R : Mem → Mem → Prop) : Prop := ∀ X Y, R X Y → simS R fE_strain fM_strain X Y
def Sm10 (R : Mem → Mem → Prop) : Prop := ∀ X Y, R X Y → ∀ a1 a2 a3 a4 : Int32, simV2 R (fE_room a1 a2 a3 (zb a4)) (kE_room a1 a2 a3 (zb a4)) 2 (fM_room a1 a2 a3 (zb a4)) X Y
def Sm11 (R : Mem → Mem → Prop) : Prop := ∀ X Y, R X Y → ∀ a1 a2 a3 a4 : Int32, simW2 R (fE_block a1 a2 a3 (zb a4)) (kE_block a1 a2 a3 (zb a4)) 3 (fM_block a1 a2 a3 (zb a4)) X Y
def Sm12 (R : Mem → Mem → Prop) : Prop := ∀ X Y, R X Y → ∀ a1 : Int32, simW2 R (fE_seat a1) (kE_seat a1) 3 (fM_seat a1) X Y
def Sm13 (R : Mem → Mem → Prop) : Prop := ∀ X Y, R X Y → ∀ a1 a2 : Int32, simW1 R (fE_leave a1 a2) (kE_leave a1 a2) (fM_leave a1 a2) X Y
def Sm14 (R : Mem → Mem → Prop) : Prop := ∀ X Y, R X Y → ∀ a1 a2 : Int32, simR1 R (fE_where a1 a2) (kE_where a1 a2) 1 (fM_where a1 a2) X Y
def Sm15 (R : Mem → Mem → Prop) : Prop := ∀ X Y, R X Y → ∀ a1 a2 a3 a4 : Int32, simR1 R (fE_who a1 a2 a3 a4) (kE_who a1 a2 a3 a4) 1 (fM_who a1 a2 a3 a4) X Y
def Sm16 (R : Mem → Mem → Prop) : Prop := ∀ X Y, R X Y → ∀ a1 a2 : Int32, simW2 R (fE_most a1 a2) (kE_most a1 a2) 2 (fM_most a1 a2) X Y
def Sm17 (R : Mem → Mem → Prop) : Prop := ∀ X Y, R X Y → ∀ a1 a2 a3 : Int32, simW1 R (fE_own a1 a2 (zb a3)) (kE_own a1 a2 (zb a3)) (fM_own a1 a2 (zb a3)) X Y
def Sm18 (R : Mem → Mem → Prop) : Prop := ∀ X Y, R X Y → ∀ a1 : Int32, simW1 R (fE_watch a1) (kE_watch a1) (fM_watch a1) X Y
def Sm19 (R : Mem → Mem → Prop) : Prop := ∀ X Y, R X Y → ∀ a1 a2 a3 : Int32, simR1 R (fE_watcher a1 a2 a3) (kE_watcher a1 a2 a3) 1 (fM_watcher a1 a2 a3) X Y
def Sm20 (R : Mem → Mem → Prop) : Prop := ∀ X Y, R X Y → ∀ a1 : Int32, simR1 R (fE_count a1) (kE_count a1) 2 (fM_count a1) X Y
def Sims (R : Mem → Mem → Prop) : Prop := Sm0 R ∧ Sm1 R ∧ Sm2 R ∧ Sm3 R ∧ Sm4 R ∧ Sm5 R ∧ Sm6 R ∧ Sm7 R ∧ Sm8 R ∧ Sm9 R ∧ Sm10 R ∧ Sm11 R ∧ Sm12 R ∧ Sm13 R ∧ Sm14 R ∧ Sm15 R ∧ Sm16 R ∧ Sm17 R ∧ Sm18 R ∧ Sm19 R ∧ Sm20 R
theorem lw_cmp {n L : Nat} (hn : n ≤ 3000) (hL : L ≤ 2560) : (nI L - 5 < nI n) ↔ L < n + 5 := by
  have h5 : (nI L - nI 5).toInt = (L : Int) - 5 := pk_sub_toInt (by omega) (by omega)
  have h6 : (nI n).toInt = (n : Int) := nI_toInt (by omega)
  rw [Int32.lt_iff_toInt_lt]
  show (nI L - nI 5).toInt < _ ↔ _
  rw [h5, h6]; omega
set_option maxHeartbeats 4000000 in
theorem lw_loop {p : Program} {l : Launch} {e : Env} {s : State} {m : MethodId} {below : List Frame} {meth : Method} {c : Code} {b L : Nat} {xs : Nat → Int32} {G : va_G} {c3 : ClassId × ClassId × ClassId} {cL : ClassId} {adX adM : Nat → Nat} {ao : Nat} {R : Mem → Mem → Prop} (S : Sims R) (C : LFix p l s m meth c b L xs G c3 cL adX adM ao) : ∀ (d : Nat) {n cells slots : Nat} {X Y : Mem} {o : Nat → Int64} {H : Heap} {locs : List Loc} {ls : Array Slot}, n + 5 * d ≤ 2600 → L ≤ n + 5 * d → cells + d ≤ 601024 → slots + 6 * d ≤ 7293034 → R X Y → LInv s G c3 cL adX adM ao X Y o H locs → lv_has ls 7 [(0, .ref b), (1, .ref (adX 0)), (2, .ref (adM 0)), (3, .ref ao), (4, .int (nI n))] → W p l e room_1 s m #[Value.ref b] below meth c H locs cells slots (lw_Z below #[Value.ref b] s) (F0 m 23 ls []) := by
  intro d
  induction d with
  | zero => 
    intro n cells slots X Y o H locs ls hn hd hc1 hc2 hR hI hl
    obtain ⟨F, hT, hK, hX, hdX, hdM, g1, g2, g3, g4, g5, g6, hXs, hbl, hL, hfl, hr, hlk⟩ := id C
    have hx := F.1
    have hb := F.2.1
    refine lv_iload hx hb d_L_law_23 (lv_at hl 4 rfl) ?_
    refine lv_aload_n hx hb d_L_law_25 rfl (lv_at hl 0 rfl) ?_
    refine va_slen hx hb hXs hbl (fun h => by omega) hI.2.2.2 d_L_law_26 ?_
    refine lv_iconst (v := 5) hx hb d_L_law_27 rfl ?_
    refine lv_isub hx hb d_L_law_28 ?_
    refine lv_icmp_gt (tgt := 1662) hx hb d_L_law_29 rfl (fun hgt => ?_) (fun hgt => ?_)
    · refine lv_iconst (v := 1) hx hb d_L_law_1662 rfl ?_
      refine va_forget (fun q hq => hI.2.2.2.2.2 q hq) ?_
      refine W.widen (k := 601024) (n := 7293034) (by omega) (by omega) ?_
      exact lw_ret hx hb hr hlk d_L_law_1663
    · exact absurd ((lw_cmp (by omega) hL).mpr (by omega)) hgt
  | succ d ih =>
    intro n cells slots X Y o H locs ls hn hd hc1 hc2 hR hI hl
    obtain ⟨F, hT, hK, hX, hdX, hdM, g1, g2, g3, g4, g5, g6, hXs, hbl, hL, hfl, hr, hlk⟩ := id C
    have hx := F.1
    have hb := F.2.1
    refine lv_iload hx hb d_L_law_23 (lv_at hl 4 rfl) ?_
    refine lv_aload_n hx hb d_L_law_25 rfl (lv_at hl 0 rfl) ?_
    refine va_slen hx hb hXs hbl (fun h => by omega) hI.2.2.2 d_L_law_26 ?_
    refine lv_iconst (v := 5) hx hb d_L_law_27 rfl ?_
    refine lv_isub hx hb d_L_law_28 ?_
    refine lv_icmp_gt (tgt := 1662) hx hb d_L_law_29 rfl (fun hgt => ?_) (fun hgt => ?_)
    · refine lv_iconst (v := 1) hx hb d_L_law_1662 rfl ?_
      refine va_forget (fun q hq => hI.2.2.2.2.2 q hq) ?_
      refine W.widen (k := 601024) (n := 7293034) (by omega) (by omega) ?_
      exact lw_ret hx hb hr hlk d_L_law_1663
    · have hnL : n + 5 ≤ L := Nat.le_of_not_lt (fun h => hgt ((lw_cmp (by omega) hL).mpr h))
      have kk : ∀ (X1 Y1 : Mem) (o1 : Nat → Int64) (H1 : Heap) (locs1 : List Loc) (ls1 : Array Slot), R X1 Y1 → LInv s G c3 cL adX adM ao X1 Y1 o1 H1 locs1 → lv_has ls1 7 [(0, .ref b), (1, .ref (adX 0)), (2, .ref (adM 0)), (3, .ref ao), (4, .int (nI n))] → W p l e room_1 s m #[Value.ref b] below meth c H1 locs1 (cells + 1) (slots + 6) (lw_Z below #[Value.ref b] s) (F0 m 1656 ls1 []) := by
        intro X1 Y1 o1 H1 locs1 ls1 hR1 hI1 hl1
        refine lv_iinc (k := 4) (v := nI (n + 5)) (lv' := (4, .int (nI (n + 5))) :: [(0, .ref b), (1, .ref (adX 0)), (2, .ref (adM 0)), (3, .ref ao)]) hx hb d_L_law_1656 hl1 rfl (nI_add n 5) (by decide) rfl (fun ls2 hl2 => ?_)
        refine lv_goto (tgt := 23) hx hb d_L_law_1659 rfl ?_
        exact ih (by omega) (by omega) (by omega) (by omega) hR1 hI1 (lv_sub hl2 [1, 2, 3, 4, 0] rfl)
      refine lv_aload_n hx hb d_L_law_32 rfl (lv_at hl 0 rfl) ?_
      refine lv_iload hx hb d_L_law_33 (lv_at hl 4 rfl) ?_
      refine va_sld hx hb hXs hbl (fun h => by omega) hI.2.2.2 (vp_in_nI (show n < L by omega) (by omega)) d_L_law_35 ?_
      refine lv_bipush (v := 31) hx hb d_L_law_36 rfl ?_
      refine lv_iand hx hb d_L_law_38 ?_
      obtain ⟨j, hj, ej⟩ := pk_andE (xs (nI n).toNatClampNeg) (m := 31) 5 (by decide)
      rw [ej]
      have hff : cells + 1 ≤ room_1.cells ∧ slots + 6 ≤ room_1.slots := ⟨show cells + 1 ≤ 601024 by omega, show slots + 6 ≤ 7293034 by omega⟩
      rcases (show j = 0 ∨ j = 1 ∨ j = 2 ∨ j = 3 ∨ j = 4 ∨ j = 5 ∨ j = 6 ∨ j = 7 ∨ j = 8 ∨ j = 9 ∨ j = 10 ∨ j = 11 ∨ j = 12 ∨ j = 13 ∨ j = 14 ∨ j = 15 ∨ j = 16 ∨ j = 17 ∨ j = 18 ∨ j = 19 ∨ j = 20 ∨ 21 ≤ j by omega) with rfl | rfl | rfl | rfl | rfl | rfl | rfl | rfl | rfl | rfl | rfl | rfl | rfl | rfl | rfl | rfl | rfl | rfl | rfl | rfl | rfl | h21
      · refine lv_tableIn (off := 97) (tgt := 136) hx hb d_L_law_39 (by decide) (by decide) rfl rfl ?_
        exact lwS_0 C hI hnL hl hff (S.1 X Y hR _ _) kk
      · refine lv_tableIn (off := 165) (tgt := 204) hx hb d_L_law_39 (by decide) (by decide) rfl rfl ?_
        exact lwS_1 C hI hnL hl hff (S.2.1 X Y hR _ _) kk
      · refine lv_tableIn (off := 233) (tgt := 272) hx hb d_L_law_39 (by decide) (by decide) rfl rfl ?_
        exact lwS_2 C hI hnL hl hff (S.2.2.1 X Y hR _ _ _) kk
      · refine lv_tableIn (off := 336) (tgt := 375) hx hb d_L_law_39 (by decide) (by decide) rfl rfl ?_
        exact lwS_3 C hI hnL hl hff (S.2.2.2.1 X Y hR _ _) kk
      · refine lv_tableIn (off := 427) (tgt := 466) hx hb d_L_law_39 (by decide) (by decide) rfl rfl ?_
        exact lwS_4 C hI hnL hl hff (S.2.2.2.2.1 X Y hR _ _ _ _) kk
      · refine lv_tableIn (off := 542) (tgt := 581) hx hb d_L_law_39 (by decide) (by decide) rfl rfl ?_
        exact lwS_5 C hI hnL hl hff (S.2.2.2.2.2.1 X Y hR _ _) kk
      · refine lv_tableIn (off := 610) (tgt := 649) hx hb d_L_law_39 (by decide) (by decide) rfl rfl ?_
        exact lwS_6 C hI hnL hl hff (S.2.2.2.2.2.2.1 X Y hR _ _) kk
      · refine lv_tableIn (off := 678) (tgt := 717) hx hb d_L_law_39 (by decide) (by decide) rfl rfl ?_
        exact lwS_7 C hI hnL hl hff (S.2.2.2.2.2.2.2.1 X Y hR) kk
      · refine lv_tableIn (off := 691) (tgt := 730) hx hb d_L_law_39 (by decide) (by decide) rfl rfl ?_
        exact lwS_8 C hI hnL hl hff (S.2.2.2.2.2.2.2.2.1 X Y hR _) kk
      · refine lv_tableIn (off := 747) (tgt := 786) hx hb d_L_law_39 (by decide) (by decide) rfl rfl ?_
        exact lwS_9 C hI hnL hl hff (S.2.2.2.2.2.2.2.2.2.1 X Y hR) kk
      · refine lv_tableIn (off := 760) (tgt := 799) hx hb d_L_law_39 (by decide) (by decide) rfl rfl ?_
        exact lwS_10 C hI hnL hl hff (S.2.2.2.2.2.2.2.2.2.2.1 X Y hR _ _ _ _) kk
      · refine lv_tableIn (off := 848) (tgt := 887) hx hb d_L_law_39 (by decide) (by decide) rfl rfl ?_
        exact lwS_11 C hI hnL hl hff (S.2.2.2.2.2.2.2.2.2.2.2.1 X Y hR _ _ _ _) kk
      · refine lv_tableIn (off := 963) (tgt := 1002) hx hb d_L_law_39 (by decide) (by decide) rfl rfl ?_
        exact lwS_12 C hI hnL hl hff (S.2.2.2.2.2.2.2.2.2.2.2.2.1 X Y hR _) kk
      · refine lv_tableIn (off := 1019) (tgt := 1058) hx hb d_L_law_39 (by decide) (by decide) rfl rfl ?_
        exact lwS_13 C hI hnL hl hff (S.2.2.2.2.2.2.2.2.2.2.2.2.2.1 X Y hR _ _) kk
      · refine lv_tableIn (off := 1087) (tgt := 1126) hx hb d_L_law_39 (by decide) (by decide) rfl rfl ?_
        exact lwS_14 C hI hnL hl hff (S.2.2.2.2.2.2.2.2.2.2.2.2.2.2.1 X Y hR _ _) kk
      · refine lv_tableIn (off := 1155) (tgt := 1194) hx hb d_L_law_39 (by decide) (by decide) rfl rfl ?_
        exact lwS_15 C hI hnL hl hff (S.2.2.2.2.2.2.2.2.2.2.2.2.2.2.2.1 X Y hR _ _ _ _) kk
      · refine lv_tableIn (off := 1247) (tgt := 1286) hx hb d_L_law_39 (by decide) (by decide) rfl rfl ?_
        exact lwS_16 C hI hnL hl hff (S.2.2.2.2.2.2.2.2.2.2.2.2.2.2.2.2.1 X Y hR _ _) kk
      · refine lv_tableIn (off := 1315) (tgt := 1354) hx hb d_L_law_39 (by decide) (by decide) rfl rfl ?_
        exact lwS_17 C hI hnL hl hff (S.2.2.2.2.2.2.2.2.2.2.2.2.2.2.2.2.2.1 X Y hR _ _ _) kk
      · refine lv_tableIn (off := 1418) (tgt := 1457) hx hb d_L_law_39 (by decide) (by decide) rfl rfl ?_
        exact lwS_18 C hI hnL hl hff (S.2.2.2.2.2.2.2.2.2.2.2.2.2.2.2.2.2.2.1 X Y hR _) kk
      · refine lv_tableIn (off := 1481) (tgt := 1520) hx hb d_L_law_39 (by decide) (by decide) rfl rfl ?_
        exact lwS_19 C hI hnL hl hff (S.2.2.2.2.2.2.2.2.2.2.2.2.2.2.2.2.2.2.2.1 X Y hR _ _ _) kk
      · refine lv_tableIn (off := 1561) (tgt := 1600) hx hb d_L_law_39 (by decide) (by decide) rfl rfl ?_
        exact lwS_20 C hI hnL hl hff (S.2.2.2.2.2.2.2.2.2.2.2.2.2.2.2.2.2.2.2.2 X Y hR _) kk
      · refine lv_tableOut (tgt := 1656) hx hb d_L_law_39 (Or.inr ?_) rfl ?_
        · rw [nI_toInt (by omega)]; omega
        · refine W.widen (k := cells + 1) (n := slots + 6) (by omega) (by omega) ?_
          exact kk X Y o H locs ls hR hI hl
