/-! ===== the class's methods where they throw ===== -/
def xcls : Nat → String
  | 1 => "java/util/NoSuchElementException"
  | 2 => "java/lang/IllegalArgumentException"
  | _ => "java/lang/IllegalStateException"
def okX (N : Nat) (G : va_G) (S : List Kd) (c3 : ClassId × ClassId × ClassId) (ad : Nat → Nat) (M : Mem) (U : State) : Prop := okU G kl S c3 ad M U ∧ evX N U
theorem okX.blind {N : Nat} {G : va_G} {S : List Kd} {c3 : ClassId × ClassId × ClassId} {ad : Nat → Nat} {M : Mem} {As : List Value} : FrameBlind (va_Pc As (okX N G S c3 ad M)) :=
  fun a U g mk h => ⟨h.1, (okU.blind a U g mk ⟨h.1, h.2.1⟩).2, h.2.2.calling⟩
theorem okX.at {N : Nat} {G : va_G} {S : List Kd} {c3 : ClassId × ClassId × ClassId} {ad : Nat → Nat} {M : Mem} {As : List Value} {s : State} {H : Heap} (hT : evT s) (hK : va_K G kl (ty3 c3) s) (hP : va_P G kl (wd S c3 ad M) H) (hX : evX N s) (hH : ∀ q, q < N → H[q]? = s.heap[q]?) : ∀ U : State, U.heap = H → s.WarmedH U.vm → va_Pc As (okX N G S c3 ad M) As.toArray U :=
  fun U hU hW => ⟨rfl, ⟨hT.warm hW, va_K.moved hW.alike hK, by rw [hU]; exact hP⟩, hX.moved hW (fun q hq => by rw [hU]; exact hH q hq)⟩
theorem okX.pre {N : Nat} {G : va_G} {S : List Kd} {c3 : ClassId × ClassId × ClassId} {ad : Nat → Nat} {M : Mem} {As : List Value} {s : State} (hT : evT s) (hK : va_K G kl (ty3 c3) s) (hP : va_P G kl (wd S c3 ad M) s.heap) (hX : evX N s) : PreS s s.heap (va_Pc As (okX N G S c3 ad M)) As :=
  ⟨okX.blind, okX.at hT hK hP hX (fun _ _ => rfl)⟩
abbrev rm1_ (f n : Nat) : Room := { frames := f, cells := 1, slots := 6, locals := n }

noncomputable def kE_mustExist (a0 : Int32) (M : Mem) : Option Nat := if a0 = 0 then (some 1) else (none)
set_option maxHeartbeats 4000000 in
set_option maxRecDepth 100000 in
theorem uE_mustExist (l : Launch) (hfl : l.flags = flags0) (G : va_G) (c3 : ClassId × ClassId × ClassId) (ad : Nat → Nat) (N : Nat) (M : Mem) (a0 : Int32) (out : Nat) (hf : kE_mustExist a0 M = some out) : TMet l yE_mustExist cE_mustExist 1 none (rm1_ 6 90) (va_Pc [.int a0] (okX N G SX c3 ad M)) (xcls out) 1 6 := by
  refine TMet.of (by decide +kernel) (Nat.le_of_ble_eq_true rfl) (fun p e s m args below meth c ls hx hb hml hown B hr hlk hout hl => ?_)
  obtain ⟨⟨hT, hK, hP⟩, hX⟩ := B
  have hown : s.vm.findClass RE = some m.cls := hown
  have F : CallFix p m c cE_mustExist 1 s args gw RE := ⟨hx, hb, hml, hown, hT.hts args⟩
  have hl : lv_has ls 1 [(0, .int a0)] := hl
  unfold kE_mustExist at hf
  refine lv_iload_n hx hb d_E_mustExist_0 rfl (lv_at hl 0 rfl) ?_
  refine lv_if_ne (tgt := 14) hx hb d_E_mustExist_1 rfl (fun hc => ?_) (fun hc => ?_)
  · have hf := ite_f hc hf
    exact no_some hf
  · have hf := ite_t hc hf
    cases hf
    exact xt_throw hx hb hfl hT hX hown (cls := "java/util/NoSuchElementException") (by decide +kernel) wq_E_206 wb_JN wn_JN (List.mem_of_getElem? (i := 0) rfl) xw_N wc_JN_init (ch_N hT hX) d_E_mustExist_4 d_E_mustExist_7 d_E_mustExist_8 d_E_mustExist_10 d_E_mustExist_13 hout hlk (hl.1.trans hml.symm) ⟨by decide, by decide, by decide, by decide⟩
noncomputable def kE_mustBeAllowed (a0 : Int32) (M : Mem) : Option Nat := if a0 = 0 then (some 2) else (none)
set_option maxHeartbeats 4000000 in
set_option maxRecDepth 100000 in
theorem uE_mustBeAllowed (l : Launch) (hfl : l.flags = flags0) (G : va_G) (c3 : ClassId × ClassId × ClassId) (ad : Nat → Nat) (N : Nat) (M : Mem) (a0 : Int32) (out : Nat) (hf : kE_mustBeAllowed a0 M = some out) : TMet l yE_mustBeAllowed cE_mustBeAllowed 1 none (rm1_ 6 90) (va_Pc [.int a0] (okX N G SX c3 ad M)) (xcls out) 1 6 := by
  refine TMet.of (by decide +kernel) (Nat.le_of_ble_eq_true rfl) (fun p e s m args below meth c ls hx hb hml hown B hr hlk hout hl => ?_)
  obtain ⟨⟨hT, hK, hP⟩, hX⟩ := B
  have hown : s.vm.findClass RE = some m.cls := hown
  have F : CallFix p m c cE_mustBeAllowed 1 s args gw RE := ⟨hx, hb, hml, hown, hT.hts args⟩
  have hl : lv_has ls 1 [(0, .int a0)] := hl
  unfold kE_mustBeAllowed at hf
  refine lv_iload_n hx hb d_E_mustBeAllowed_0 rfl (lv_at hl 0 rfl) ?_
  refine lv_if_ne (tgt := 14) hx hb d_E_mustBeAllowed_1 rfl (fun hc => ?_) (fun hc => ?_)
  · have hf := ite_f hc hf
    exact no_some hf
  · have hf := ite_t hc hf
    cases hf
    exact xt_throw hx hb hfl hT hX hown (cls := "java/lang/IllegalArgumentException") (by decide +kernel) wq_E_197 wb_JG wn_JG (List.mem_of_getElem? (i := 1) rfl) xw_G wc_JG_init (ch_G hT hX) d_E_mustBeAllowed_4 d_E_mustBeAllowed_7 d_E_mustBeAllowed_8 d_E_mustBeAllowed_10 d_E_mustBeAllowed_13 hout hlk (hl.1.trans hml.symm) ⟨by decide, by decide, by decide, by decide⟩
noncomputable def kE_paper (a1 a2 : Int32) (M : Mem) : Option Nat := xbd (fE_isPaper a1) (fun r1 => if r1 = 0 then some 1 else (xbd (fE_isUpTo a2 300) (fun r2 => if r2 = 0 then some 2 else (none))))
set_option maxHeartbeats 4000000 in
set_option maxRecDepth 100000 in
theorem uE_paper (l : Launch) (hfl : l.flags = flags0) (G : va_G) (c3 : ClassId × ClassId × ClassId) (ad : Nat → Nat) (N : Nat) (M : Mem) (a1 a2 : Int32) (out : Nat) (hf : kE_paper a1 a2 M = some out) : TMet l yE_paper cE_paper 4 (some .int) (rm1_ 7 110) (va_Pc [.ref (ad 0), .int a1, .int a2] (okX N G SX c3 ad M)) (xcls out) 1 6 := by
  refine TMet.of (by decide +kernel) (Nat.le_of_ble_eq_true rfl) (fun p e s m args below meth c ls hx hb hml hown B hr hlk hout hl => ?_)
  obtain ⟨⟨hT, hK, hP⟩, hX⟩ := B
  have hown : s.vm.findClass RE = some m.cls := hown
  have F : CallFix p m c cE_paper 4 s args gw RE := ⟨hx, hb, hml, hown, hT.hts args⟩
  have hl : lv_has ls 4 [(0, .ref (ad 0)), (1, .int a1), (2, .int a2)] := hl
  unfold kE_paper at hf
  refine lv_iload_n hx hb d_E_paper_0 rfl (lv_at hl 1 rfl) ?_
  obtain ⟨r1, hr1, hf⟩ := xbd_some hf
  refine xc_rs (rest := []) F hT hK hP (tE_isPaper l G c3 ad M a1 r1 hr1) wl_E_30 ws_E_isPaper wn_E wc_E_isPaper ck_E_isPaper ⟨rfl, rfl⟩ ⟨by decide, by decide⟩ ⟨Nat.zero_le _, Nat.zero_le _⟩ hl.1 rfl (Nat.le_of_ble_eq_true rfl) d_E_paper_1 ?_
  by_cases hc : r1 = 0
  · have hf := ite_t hc hf
    cases hf
    exact xt_out (xt_runS (rest := []) F hT (uE_mustExist l hfl G c3 ad N M r1 1 (by unfold kE_mustExist; exact if_pos hc)) (okX.pre hT hK hP hX) wl_E_34 ws_E_mustExist wn_E wc_E_mustExist ck_E_mustExist ⟨by decide, by decide⟩ ⟨by decide, by decide⟩ hl.1 rfl (Nat.le_of_ble_eq_true rfl) d_E_paper_4) hout hlk
  · have hf := ite_f hc hf
    refine xc_vs (rest := []) F hT hK hP (tE_mustExist l G c3 ad M r1 (out := ()) (by unfold fE_mustExist; exact if_neg hc)) wl_E_34 ws_E_mustExist wn_E wc_E_mustExist ck_E_mustExist ⟨rfl, rfl⟩ ⟨by decide, by decide⟩ ⟨Nat.zero_le _, Nat.zero_le _⟩ hl.1 rfl (Nat.le_of_ble_eq_true rfl) d_E_paper_4 ?_
    refine lv_iload_n hx hb d_E_paper_7 rfl (lv_at hl 2 rfl) ?_
    refine lv_sipush (v := 300) hx hb d_E_paper_8 rfl ?_
    obtain ⟨r2, hr2, hf⟩ := xbd_some hf
    refine xc_rs (rest := []) F hT hK hP (tE_isUpTo l G c3 ad M a2 300 r2 hr2) wl_E_38 ws_E_isUpTo wn_E wc_E_isUpTo ck_E_isUpTo ⟨rfl, rfl⟩ ⟨by decide, by decide⟩ ⟨Nat.zero_le _, Nat.zero_le _⟩ hl.1 rfl (Nat.le_of_ble_eq_true rfl) d_E_paper_11 ?_
    by_cases hc : r2 = 0
    · have hf := ite_t hc hf
      cases hf
      exact xt_out (xt_runS (rest := []) F hT (uE_mustBeAllowed l hfl G c3 ad N M r2 2 (by unfold kE_mustBeAllowed; exact if_pos hc)) (okX.pre hT hK hP hX) wl_E_42 ws_E_mustBeAllowed wn_E wc_E_mustBeAllowed ck_E_mustBeAllowed ⟨by decide, by decide⟩ ⟨by decide, by decide⟩ hl.1 rfl (Nat.le_of_ble_eq_true rfl) d_E_paper_14) hout hlk
    · have hf := ite_f hc hf
      refine xc_vs (rest := []) F hT hK hP (tE_mustBeAllowed l G c3 ad M r2 (out := ()) (by unfold fE_mustBeAllowed; exact if_neg hc)) wl_E_42 ws_E_mustBeAllowed wn_E wc_E_mustBeAllowed ck_E_mustBeAllowed ⟨rfl, rfl⟩ ⟨by decide, by decide⟩ ⟨Nat.zero_le _, Nat.zero_le _⟩ hl.1 rfl (Nat.le_of_ble_eq_true rfl) d_E_paper_14 ?_
      refine lv_aload_n hx hb d_E_paper_17 rfl (lv_at hl 0 rfl) ?_
      exact no_some hf
noncomputable def kE_session (a1 a2 : Int32) (M : Mem) : Option Nat := xbd (fE_isSession a1) (fun r1 => if r1 = 0 then some 1 else (xbd (fE_isUpTo a2 300) (fun r2 => if r2 = 0 then some 2 else (none))))
set_option maxHeartbeats 4000000 in
set_option maxRecDepth 100000 in
theorem uE_session (l : Launch) (hfl : l.flags = flags0) (G : va_G) (c3 : ClassId × ClassId × ClassId) (ad : Nat → Nat) (N : Nat) (M : Mem) (a1 a2 : Int32) (out : Nat) (hf : kE_session a1 a2 M = some out) : TMet l yE_session cE_session 4 (some .int) (rm1_ 7 110) (va_Pc [.ref (ad 0), .int a1, .int a2] (okX N G SX c3 ad M)) (xcls out) 1 6 := by
  refine TMet.of (by decide +kernel) (Nat.le_of_ble_eq_true rfl) (fun p e s m args below meth c ls hx hb hml hown B hr hlk hout hl => ?_)
  obtain ⟨⟨hT, hK, hP⟩, hX⟩ := B
  have hown : s.vm.findClass RE = some m.cls := hown
  have F : CallFix p m c cE_session 4 s args gw RE := ⟨hx, hb, hml, hown, hT.hts args⟩
  have hl : lv_has ls 4 [(0, .ref (ad 0)), (1, .int a1), (2, .int a2)] := hl
  unfold kE_session at hf
  refine lv_iload_n hx hb d_E_session_0 rfl (lv_at hl 1 rfl) ?_
  obtain ⟨r1, hr1, hf⟩ := xbd_some hf
  refine xc_rs (rest := []) F hT hK hP (tE_isSession l G c3 ad M a1 r1 hr1) wl_E_52 ws_E_isSession wn_E wc_E_isSession ck_E_isSession ⟨rfl, rfl⟩ ⟨by decide, by decide⟩ ⟨Nat.zero_le _, Nat.zero_le _⟩ hl.1 rfl (Nat.le_of_ble_eq_true rfl) d_E_session_1 ?_
  by_cases hc : r1 = 0
  · have hf := ite_t hc hf
    cases hf
    exact xt_out (xt_runS (rest := []) F hT (uE_mustExist l hfl G c3 ad N M r1 1 (by unfold kE_mustExist; exact if_pos hc)) (okX.pre hT hK hP hX) wl_E_34 ws_E_mustExist wn_E wc_E_mustExist ck_E_mustExist ⟨by decide, by decide⟩ ⟨by decide, by decide⟩ hl.1 rfl (Nat.le_of_ble_eq_true rfl) d_E_session_4) hout hlk
  · have hf := ite_f hc hf
    refine xc_vs (rest := []) F hT hK hP (tE_mustExist l G c3 ad M r1 (out := ()) (by unfold fE_mustExist; exact if_neg hc)) wl_E_34 ws_E_mustExist wn_E wc_E_mustExist ck_E_mustExist ⟨rfl, rfl⟩ ⟨by decide, by decide⟩ ⟨Nat.zero_le _, Nat.zero_le _⟩ hl.1 rfl (Nat.le_of_ble_eq_true rfl) d_E_session_4 ?_
    refine lv_iload_n hx hb d_E_session_7 rfl (lv_at hl 2 rfl) ?_
    refine lv_sipush (v := 300) hx hb d_E_session_8 rfl ?_
    obtain ⟨r2, hr2, hf⟩ := xbd_some hf
    refine xc_rs (rest := []) F hT hK hP (tE_isUpTo l G c3 ad M a2 300 r2 hr2) wl_E_38 ws_E_isUpTo wn_E wc_E_isUpTo ck_E_isUpTo ⟨rfl, rfl⟩ ⟨by decide, by decide⟩ ⟨Nat.zero_le _, Nat.zero_le _⟩ hl.1 rfl (Nat.le_of_ble_eq_true rfl) d_E_session_11 ?_
    by_cases hc : r2 = 0
    · have hf := ite_t hc hf
      cases hf
      exact xt_out (xt_runS (rest := []) F hT (uE_mustBeAllowed l hfl G c3 ad N M r2 2 (by unfold kE_mustBeAllowed; exact if_pos hc)) (okX.pre hT hK hP hX) wl_E_42 ws_E_mustBeAllowed wn_E wc_E_mustBeAllowed ck_E_mustBeAllowed ⟨by decide, by decide⟩ ⟨by decide, by decide⟩ hl.1 rfl (Nat.le_of_ble_eq_true rfl) d_E_session_14) hout hlk
    · have hf := ite_f hc hf
      refine xc_vs (rest := []) F hT hK hP (tE_mustBeAllowed l G c3 ad M r2 (out := ()) (by unfold fE_mustBeAllowed; exact if_neg hc)) wl_E_42 ws_E_mustBeAllowed wn_E wc_E_mustBeAllowed ck_E_mustBeAllowed ⟨rfl, rfl⟩ ⟨by decide, by decide⟩ ⟨Nat.zero_le _, Nat.zero_le _⟩ hl.1 rfl (Nat.le_of_ble_eq_true rfl) d_E_session_14 ?_
      refine lv_aload_n hx hb d_E_session_17 rfl (lv_at hl 0 rfl) ?_
      exact no_some hf
noncomputable def kE_enrol_19 (v1 v2 v3 s19_0 : Int32) (M : Mem) : Option Nat := if s19_0 = 0 then some 1 else (xgd (vp_in v1 40) (xlt ((M 4 v1.toNatClampNeg)) (fun x2 => xbd (fE_has x2 v2) (fun r3 => if r3 = v3 then (none) else (none)))))
noncomputable def kE_enrol_18 (v1 v2 v3 : Int32) (M : Mem) : Option Nat := kE_enrol_19 v1 v2 v3 0 M
noncomputable def kE_enrol (a1 a2 a3 : Int32) (M : Mem) : Option Nat := xbd (fE_isCandidate a1) (fun r4 => if r4 = 0 then (kE_enrol_18 a1 a2 a3 M) else (xbd (fE_isPaper a2) (fun r5 => if r5 = 0 then (kE_enrol_18 a1 a2 a3 M) else (kE_enrol_19 a1 a2 a3 1 M))))
set_option maxHeartbeats 4000000 in
set_option maxRecDepth 100000 in
theorem uE_enrol (l : Launch) (hfl : l.flags = flags0) (G : va_G) (c3 : ClassId × ClassId × ClassId) (ad : Nat → Nat) (N : Nat) (M : Mem) (a1 a2 a3 : Int32) (out : Nat) (hf : kE_enrol a1 a2 a3 M = some out) : TMet l yE_enrol cE_enrol 5 (some .boolean) (rm1_ 7 110) (va_Pc [.ref (ad 0), .int a1, .int a2, .int a3] (okX N G SX c3 ad M)) (xcls out) 1 6 := by
  refine TMet.of (by decide +kernel) (Nat.le_of_ble_eq_true rfl) (fun p e s m args below meth c ls hx hb hml hown B hr hlk hout hl => ?_)
  obtain ⟨⟨hT, hK, hP⟩, hX⟩ := B
  have hown : s.vm.findClass RE = some m.cls := hown
  have F : CallFix p m c cE_enrol 5 s args gw RE := ⟨hx, hb, hml, hown, hT.hts args⟩
  have hl : lv_has ls 5 [(0, .ref (ad 0)), (1, .int a1), (2, .int a2), (3, .int a3)] := hl
  have K19 : ∀ (v1 v2 v3 s19_0 : Int32) (ls : Array Slot), lv_has ls 5 [(0, .ref (ad 0)), (1, .int v1), (2, .int v2), (3, .int v3)] → kE_enrol_19 v1 v2 v3 s19_0 M = some out → W p l e (rm1_ 7 110) s m args below meth c s.heap [] 0 0 (TQ below (xcls out) s 1 6) (F0 m 19 ls [.int s19_0]) := by
    intro v1 v2 v3 s19_0 ls  hl hf
    unfold kE_enrol_19 at hf
    by_cases hc : s19_0 = 0
    · have hf := ite_t hc hf
      cases hf
      exact xt_out (xt_runS (rest := []) F hT (uE_mustExist l hfl G c3 ad N M s19_0 1 (by unfold kE_mustExist; exact if_pos hc)) (okX.pre hT hK hP hX) wl_E_34 ws_E_mustExist wn_E wc_E_mustExist ck_E_mustExist ⟨by decide, by decide⟩ ⟨by decide, by decide⟩ hl.1 rfl (Nat.le_of_ble_eq_true rfl) d_E_enrol_19) hout hlk
    · have hf := ite_f hc hf
      refine xc_vs (rest := []) F hT hK hP (tE_mustExist l G c3 ad M s19_0 (out := ()) (by unfold fE_mustExist; exact if_neg hc)) wl_E_34 ws_E_mustExist wn_E wc_E_mustExist ck_E_mustExist ⟨rfl, rfl⟩ ⟨by decide, by decide⟩ ⟨Nat.zero_le _, Nat.zero_le _⟩ hl.1 rfl (Nat.le_of_ble_eq_true rfl) d_E_enrol_19 ?_
      refine lv_aload_n hx hb d_E_enrol_22 rfl (lv_at hl 0 rfl) ?_
      refine xr_getr hx hb hT hown hK hP sX_0 rfl inE 0 (by decide) wf_E_12 rfl d_E_enrol_23 ?_
      refine xr_getr hx hb hT hown hK hP sX_1 rfl inT 2 (by decide) wf_E_61 rfl d_E_enrol_26 ?_
      refine lv_iload_n hx hb d_E_enrol_29 rfl (lv_at hl 1 rfl) ?_
      obtain ⟨g1, hf⟩ := xgd_some hf
      refine xr_iald hx hb hK hP sX_4 g1 d_E_enrol_30 ?_
      obtain ⟨x2, hx2, hf⟩ := xlt_some hf
      refine xr_name hx2 ?_
      refine lv_istore (lv' := [(4, .int x2), (0, .ref (ad 0)), (1, .int v1), (2, .int v2), (3, .int v3)]) hx hb d_E_enrol_31 hl (by decide) rfl (fun ls hl => ?_)
      refine lv_iload hx hb d_E_enrol_33 (lv_at hl 0 rfl) ?_
      refine lv_iload_n hx hb d_E_enrol_35 rfl (lv_at hl 3 rfl) ?_
      obtain ⟨r3, hr3, hf⟩ := xbd_some hf
      refine xc_rs (rest := []) F hT hK hP (tE_has l G c3 ad M x2 v2 r3 hr3) wl_E_64 ws_E_has wn_E wc_E_has ck_E_has ⟨rfl, rfl⟩ ⟨by decide, by decide⟩ ⟨Nat.zero_le _, Nat.zero_le _⟩ hl.1 rfl (Nat.le_of_ble_eq_true rfl) d_E_enrol_36 ?_
      refine lv_iload_n hx hb d_E_enrol_39 rfl (lv_at hl 4 rfl) ?_
      refine lv_icmp_ne (tgt := 45) hx hb d_E_enrol_40 rfl (fun hc => ?_) (fun hc => ?_)
      · have hf := ite_f hc hf
        refine lv_aload_n hx hb d_E_enrol_45 rfl (lv_at hl 1 rfl) ?_
        exact no_some hf
      · have hf := ite_t hc hf
        refine lv_iconst (v := 0) hx hb d_E_enrol_43 rfl ?_
        exact no_some hf
  have K18 : ∀ (v1 v2 v3 : Int32) (ls : Array Slot), lv_has ls 5 [(0, .ref (ad 0)), (1, .int v1), (2, .int v2), (3, .int v3)] → kE_enrol_18 v1 v2 v3 M = some out → W p l e (rm1_ 7 110) s m args below meth c s.heap [] 0 0 (TQ below (xcls out) s 1 6) (F0 m 18 ls []) := by
    intro v1 v2 v3 ls  hl hf
    unfold kE_enrol_18 at hf
    refine lv_iconst (v := 0) hx hb d_E_enrol_18 rfl ?_
    exact K19 v1 v2 v3 0 _  hl hf
  unfold kE_enrol at hf
  refine lv_iload_n hx hb d_E_enrol_0 rfl (lv_at hl 1 rfl) ?_
  obtain ⟨r4, hr4, hf⟩ := xbd_some hf
  refine xc_rs (rest := []) F hT hK hP (tE_isCandidate l G c3 ad M a1 r4 hr4) wl_E_58 ws_E_isCandidate wn_E wc_E_isCandidate ck_E_isCandidate ⟨rfl, rfl⟩ ⟨by decide, by decide⟩ ⟨Nat.zero_le _, Nat.zero_le _⟩ hl.1 rfl (Nat.le_of_ble_eq_true rfl) d_E_enrol_1 ?_
  refine lv_if_eq (tgt := 18) hx hb d_E_enrol_4 rfl (fun hc => ?_) (fun hc => ?_)
  · have hf := ite_t hc hf
    exact K18 a1 a2 a3 _  hl hf
  · have hf := ite_f hc hf
    refine lv_iload_n hx hb d_E_enrol_7 rfl (lv_at hl 2 rfl) ?_
    obtain ⟨r5, hr5, hf⟩ := xbd_some hf
    refine xc_rs (rest := []) F hT hK hP (tE_isPaper l G c3 ad M a2 r5 hr5) wl_E_30 ws_E_isPaper wn_E wc_E_isPaper ck_E_isPaper ⟨rfl, rfl⟩ ⟨by decide, by decide⟩ ⟨Nat.zero_le _, Nat.zero_le _⟩ hl.1 rfl (Nat.le_of_ble_eq_true rfl) d_E_enrol_8 ?_
    refine lv_if_eq (tgt := 18) hx hb d_E_enrol_11 rfl (fun hc => ?_) (fun hc => ?_)
    · have hf := ite_t hc hf
      exact K18 a1 a2 a3 _  hl hf
    · have hf := ite_f hc hf
      refine lv_iconst (v := 1) hx hb d_E_enrol_14 rfl ?_
      refine lv_goto (tgt := 19) hx hb d_E_enrol_15 rfl ?_
      exact K19 a1 a2 a3 1 _  hl hf
noncomputable def kE_extra_25 (v1 v2 s25_0 : Int32) (M : Mem) : Option Nat := none
noncomputable def kE_extra (a1 a2 : Int32) (M : Mem) : Option Nat := xbd (fE_isCandidate a1) (fun r1 => if r1 = 0 then some 1 else (xgd (vp_in a1 40) (if (M 5 a1.toNatClampNeg) = a2 then (kE_extra_25 a1 a2 0 M) else (kE_extra_25 a1 a2 1 M))))
set_option maxHeartbeats 4000000 in
set_option maxRecDepth 100000 in
theorem uE_extra (l : Launch) (hfl : l.flags = flags0) (G : va_G) (c3 : ClassId × ClassId × ClassId) (ad : Nat → Nat) (N : Nat) (M : Mem) (a1 a2 : Int32) (out : Nat) (hf : kE_extra a1 a2 M = some out) : TMet l yE_extra cE_extra 4 (some .boolean) (rm1_ 7 110) (va_Pc [.ref (ad 0), .int a1, .int a2] (okX N G SX c3 ad M)) (xcls out) 1 6 := by
  refine TMet.of (by decide +kernel) (Nat.le_of_ble_eq_true rfl) (fun p e s m args below meth c ls hx hb hml hown B hr hlk hout hl => ?_)
  obtain ⟨⟨hT, hK, hP⟩, hX⟩ := B
  have hown : s.vm.findClass RE = some m.cls := hown
  have F : CallFix p m c cE_extra 4 s args gw RE := ⟨hx, hb, hml, hown, hT.hts args⟩
  have hl : lv_has ls 4 [(0, .ref (ad 0)), (1, .int a1), (2, .int a2)] := hl
  have K25 : ∀ (v1 v2 s25_0 : Int32) (ls : Array Slot), lv_has ls 4 [(0, .ref (ad 0)), (1, .int v1), (2, .int v2)] → kE_extra_25 v1 v2 s25_0 M = some out → W p l e (rm1_ 7 110) s m args below meth c s.heap [] 0 0 (TQ below (xcls out) s 1 6) (F0 m 25 ls [.int s25_0]) := by
    intro v1 v2 s25_0 ls  hl hf
    unfold kE_extra_25 at hf
    refine lv_istore_n (lv' := [(3, .int s25_0), (0, .ref (ad 0)), (1, .int v1), (2, .int v2)]) hx hb d_E_extra_25 rfl hl (by decide) rfl (fun ls hl => ?_)
    refine lv_aload_n hx hb d_E_extra_26 rfl (lv_at hl 1 rfl) ?_
    refine xr_getr hx hb hT hown hK hP sX_0 rfl inE 0 (by decide) wf_E_12 rfl d_E_extra_27 ?_
    refine xr_getr hx hb hT hown hK hP sX_1 rfl inT 3 (by decide) wf_E_71 rfl d_E_extra_30 ?_
    refine lv_iload_n hx hb d_E_extra_33 rfl (lv_at hl 2 rfl) ?_
    refine lv_iload_n hx hb d_E_extra_34 rfl (lv_at hl 3 rfl) ?_
    exact no_some hf
  unfold kE_extra at hf
  refine lv_iload_n hx hb d_E_extra_0 rfl (lv_at hl 1 rfl) ?_
  obtain ⟨r1, hr1, hf⟩ := xbd_some hf
  refine xc_rs (rest := []) F hT hK hP (tE_isCandidate l G c3 ad M a1 r1 hr1) wl_E_58 ws_E_isCandidate wn_E wc_E_isCandidate ck_E_isCandidate ⟨rfl, rfl⟩ ⟨by decide, by decide⟩ ⟨Nat.zero_le _, Nat.zero_le _⟩ hl.1 rfl (Nat.le_of_ble_eq_true rfl) d_E_extra_1 ?_
  by_cases hc : r1 = 0
  · have hf := ite_t hc hf
    cases hf
    exact xt_out (xt_runS (rest := []) F hT (uE_mustExist l hfl G c3 ad N M r1 1 (by unfold kE_mustExist; exact if_pos hc)) (okX.pre hT hK hP hX) wl_E_34 ws_E_mustExist wn_E wc_E_mustExist ck_E_mustExist ⟨by decide, by decide⟩ ⟨by decide, by decide⟩ hl.1 rfl (Nat.le_of_ble_eq_true rfl) d_E_extra_4) hout hlk
  · have hf := ite_f hc hf
    refine xc_vs (rest := []) F hT hK hP (tE_mustExist l G c3 ad M r1 (out := ()) (by unfold fE_mustExist; exact if_neg hc)) wl_E_34 ws_E_mustExist wn_E wc_E_mustExist ck_E_mustExist ⟨rfl, rfl⟩ ⟨by decide, by decide⟩ ⟨Nat.zero_le _, Nat.zero_le _⟩ hl.1 rfl (Nat.le_of_ble_eq_true rfl) d_E_extra_4 ?_
    refine lv_aload_n hx hb d_E_extra_7 rfl (lv_at hl 0 rfl) ?_
    refine xr_getr hx hb hT hown hK hP sX_0 rfl inE 0 (by decide) wf_E_12 rfl d_E_extra_8 ?_
    refine xr_getr hx hb hT hown hK hP sX_1 rfl inT 3 (by decide) wf_E_71 rfl d_E_extra_11 ?_
    refine lv_iload_n hx hb d_E_extra_14 rfl (lv_at hl 1 rfl) ?_
    obtain ⟨g2, hf⟩ := xgd_some hf
    refine xr_zald hx hb hK hP sX_5 g2 d_E_extra_15 ?_
    refine lv_iload_n hx hb d_E_extra_16 rfl (lv_at hl 2 rfl) ?_
    refine lv_icmp_eq (tgt := 24) hx hb d_E_extra_17 rfl (fun hc => ?_) (fun hc => ?_)
    · have hf := ite_t hc hf
      refine lv_iconst (v := 0) hx hb d_E_extra_24 rfl ?_
      exact K25 a1 a2 0 _  hl hf
    · have hf := ite_f hc hf
      refine lv_iconst (v := 1) hx hb d_E_extra_20 rfl ?_
      refine lv_goto (tgt := 25) hx hb d_E_extra_21 rfl ?_
      exact K25 a1 a2 1 _  hl hf
noncomputable def kE_rule_40 (v1 v2 v3 v4 s40_0 : Int32) (M : Mem) : Option Nat := if s40_0 = 0 then some 2 else (xbd (fT_hasRule v1 v2 v3 M) (fun r1 => if r1 = v4 then (none) else (none)))
noncomputable def kE_rule_27 (v1 v2 v3 v4 s27_0 : Int32) (M : Mem) : Option Nat := if s27_0 = 0 then some 1 else (if v2 = v3 then (kE_rule_40 v1 v2 v3 v4 0 M) else (kE_rule_40 v1 v2 v3 v4 1 M))
noncomputable def kE_rule_26 (v1 v2 v3 v4 : Int32) (M : Mem) : Option Nat := kE_rule_27 v1 v2 v3 v4 0 M
noncomputable def kE_rule (a1 a2 a3 a4 : Int32) (M : Mem) : Option Nat := xbd (fE_isBelow a1 3) (fun r2 => if r2 = 0 then (kE_rule_26 a1 a2 a3 a4 M) else (xbd (fE_isPaper a2) (fun r3 => if r3 = 0 then (kE_rule_26 a1 a2 a3 a4 M) else (xbd (fE_isPaper a3) (fun r4 => if r4 = 0 then (kE_rule_26 a1 a2 a3 a4 M) else (kE_rule_27 a1 a2 a3 a4 1 M))))))
set_option maxHeartbeats 4000000 in
set_option maxRecDepth 100000 in
theorem uE_rule (l : Launch) (hfl : l.flags = flags0) (G : va_G) (c3 : ClassId × ClassId × ClassId) (ad : Nat → Nat) (N : Nat) (M : Mem) (a1 a2 a3 a4 : Int32) (out : Nat) (hf : kE_rule a1 a2 a3 a4 M = some out) : TMet l yE_rule cE_rule 5 (some .boolean) (rm1_ 7 110) (va_Pc [.ref (ad 0), .int a1, .int a2, .int a3, .int a4] (okX N G SX c3 ad M)) (xcls out) 1 6 := by
  refine TMet.of (by decide +kernel) (Nat.le_of_ble_eq_true rfl) (fun p e s m args below meth c ls hx hb hml hown B hr hlk hout hl => ?_)
  obtain ⟨⟨hT, hK, hP⟩, hX⟩ := B
  have hown : s.vm.findClass RE = some m.cls := hown
  have F : CallFix p m c cE_rule 5 s args gw RE := ⟨hx, hb, hml, hown, hT.hts args⟩
  have hl : lv_has ls 5 [(0, .ref (ad 0)), (1, .int a1), (2, .int a2), (3, .int a3), (4, .int a4)] := hl
  have K40 : ∀ (v1 v2 v3 v4 s40_0 : Int32) (ls : Array Slot), lv_has ls 5 [(0, .ref (ad 0)), (1, .int v1), (2, .int v2), (3, .int v3), (4, .int v4)] → kE_rule_40 v1 v2 v3 v4 s40_0 M = some out → W p l e (rm1_ 7 110) s m args below meth c s.heap [] 0 0 (TQ below (xcls out) s 1 6) (F0 m 40 ls [.int s40_0]) := by
    intro v1 v2 v3 v4 s40_0 ls  hl hf
    unfold kE_rule_40 at hf
    by_cases hc : s40_0 = 0
    · have hf := ite_t hc hf
      cases hf
      exact xt_out (xt_runS (rest := []) F hT (uE_mustBeAllowed l hfl G c3 ad N M s40_0 2 (by unfold kE_mustBeAllowed; exact if_pos hc)) (okX.pre hT hK hP hX) wl_E_42 ws_E_mustBeAllowed wn_E wc_E_mustBeAllowed ck_E_mustBeAllowed ⟨by decide, by decide⟩ ⟨by decide, by decide⟩ hl.1 rfl (Nat.le_of_ble_eq_true rfl) d_E_rule_40) hout hlk
    · have hf := ite_f hc hf
      refine xc_vs (rest := []) F hT hK hP (tE_mustBeAllowed l G c3 ad M s40_0 (out := ()) (by unfold fE_mustBeAllowed; exact if_neg hc)) wl_E_42 ws_E_mustBeAllowed wn_E wc_E_mustBeAllowed ck_E_mustBeAllowed ⟨rfl, rfl⟩ ⟨by decide, by decide⟩ ⟨Nat.zero_le _, Nat.zero_le _⟩ hl.1 rfl (Nat.le_of_ble_eq_true rfl) d_E_rule_40 ?_
      refine lv_aload_n hx hb d_E_rule_43 rfl (lv_at hl 0 rfl) ?_
      refine xr_getr hx hb hT hown hK hP sX_0 rfl inE 0 (by decide) wf_E_12 rfl d_E_rule_44 ?_
      refine lv_iload_n hx hb d_E_rule_47 rfl (lv_at hl 1 rfl) ?_
      refine lv_iload_n hx hb d_E_rule_48 rfl (lv_at hl 2 rfl) ?_
      refine lv_iload_n hx hb d_E_rule_49 rfl (lv_at hl 3 rfl) ?_
      obtain ⟨r1, hr1, hf⟩ := xbd_some hf
      refine xc_rv (rest := []) F hT hK hP (tT_hasRule l G c3 ad M v1 v2 v3 r1 hr1) sX_1 rfl wl_E_78 wi_T_hasRule we_T_hasRule wn_T wc_T_hasRule ck_T_hasRule ⟨rfl, rfl⟩ ⟨by decide, by decide⟩ ⟨Nat.zero_le _, Nat.zero_le _⟩ hl.1 rfl (Nat.le_of_ble_eq_true rfl) d_E_rule_50 ?_
      refine lv_iload hx hb d_E_rule_53 (lv_at hl 4 rfl) ?_
      refine lv_icmp_ne (tgt := 60) hx hb d_E_rule_55 rfl (fun hc => ?_) (fun hc => ?_)
      · have hf := ite_f hc hf
        refine lv_aload_n hx hb d_E_rule_60 rfl (lv_at hl 0 rfl) ?_
        exact no_some hf
      · have hf := ite_t hc hf
        refine lv_iconst (v := 0) hx hb d_E_rule_58 rfl ?_
        exact no_some hf
  have K27 : ∀ (v1 v2 v3 v4 s27_0 : Int32) (ls : Array Slot), lv_has ls 5 [(0, .ref (ad 0)), (1, .int v1), (2, .int v2), (3, .int v3), (4, .int v4)] → kE_rule_27 v1 v2 v3 v4 s27_0 M = some out → W p l e (rm1_ 7 110) s m args below meth c s.heap [] 0 0 (TQ below (xcls out) s 1 6) (F0 m 27 ls [.int s27_0]) := by
    intro v1 v2 v3 v4 s27_0 ls  hl hf
    unfold kE_rule_27 at hf
    by_cases hc : s27_0 = 0
    · have hf := ite_t hc hf
      cases hf
      exact xt_out (xt_runS (rest := []) F hT (uE_mustExist l hfl G c3 ad N M s27_0 1 (by unfold kE_mustExist; exact if_pos hc)) (okX.pre hT hK hP hX) wl_E_34 ws_E_mustExist wn_E wc_E_mustExist ck_E_mustExist ⟨by decide, by decide⟩ ⟨by decide, by decide⟩ hl.1 rfl (Nat.le_of_ble_eq_true rfl) d_E_rule_27) hout hlk
    · have hf := ite_f hc hf
      refine xc_vs (rest := []) F hT hK hP (tE_mustExist l G c3 ad M s27_0 (out := ()) (by unfold fE_mustExist; exact if_neg hc)) wl_E_34 ws_E_mustExist wn_E wc_E_mustExist ck_E_mustExist ⟨rfl, rfl⟩ ⟨by decide, by decide⟩ ⟨Nat.zero_le _, Nat.zero_le _⟩ hl.1 rfl (Nat.le_of_ble_eq_true rfl) d_E_rule_27 ?_
      refine lv_iload_n hx hb d_E_rule_30 rfl (lv_at hl 2 rfl) ?_
      refine lv_iload_n hx hb d_E_rule_31 rfl (lv_at hl 3 rfl) ?_
      refine lv_icmp_eq (tgt := 39) hx hb d_E_rule_32 rfl (fun hc => ?_) (fun hc => ?_)
      · have hf := ite_t hc hf
        refine lv_iconst (v := 0) hx hb d_E_rule_39 rfl ?_
        exact K40 v1 v2 v3 v4 0 _  hl hf
      · have hf := ite_f hc hf
        refine lv_iconst (v := 1) hx hb d_E_rule_35 rfl ?_
        refine lv_goto (tgt := 40) hx hb d_E_rule_36 rfl ?_
        exact K40 v1 v2 v3 v4 1 _  hl hf
  have K26 : ∀ (v1 v2 v3 v4 : Int32) (ls : Array Slot), lv_has ls 5 [(0, .ref (ad 0)), (1, .int v1), (2, .int v2), (3, .int v3), (4, .int v4)] → kE_rule_26 v1 v2 v3 v4 M = some out → W p l e (rm1_ 7 110) s m args below meth c s.heap [] 0 0 (TQ below (xcls out) s 1 6) (F0 m 26 ls []) := by
    intro v1 v2 v3 v4 ls  hl hf
    unfold kE_rule_26 at hf
    refine lv_iconst (v := 0) hx hb d_E_rule_26 rfl ?_
    exact K27 v1 v2 v3 v4 0 _  hl hf
  unfold kE_rule at hf
  refine lv_iload_n hx hb d_E_rule_0 rfl (lv_at hl 1 rfl) ?_
  refine lv_iconst (v := 3) hx hb d_E_rule_1 rfl ?_
  obtain ⟨r2, hr2, hf⟩ := xbd_some hf
  refine xc_rs (rest := []) F hT hK hP (tE_isBelow l G c3 ad M a1 3 r2 hr2) wl_E_75 ws_E_isBelow wn_E wc_E_isBelow ck_E_isBelow ⟨rfl, rfl⟩ ⟨by decide, by decide⟩ ⟨Nat.zero_le _, Nat.zero_le _⟩ hl.1 rfl (Nat.le_of_ble_eq_true rfl) d_E_rule_2 ?_
  refine lv_if_eq (tgt := 26) hx hb d_E_rule_5 rfl (fun hc => ?_) (fun hc => ?_)
  · have hf := ite_t hc hf
    exact K26 a1 a2 a3 a4 _  hl hf
  · have hf := ite_f hc hf
    refine lv_iload_n hx hb d_E_rule_8 rfl (lv_at hl 2 rfl) ?_
    obtain ⟨r3, hr3, hf⟩ := xbd_some hf
    refine xc_rs (rest := []) F hT hK hP (tE_isPaper l G c3 ad M a2 r3 hr3) wl_E_30 ws_E_isPaper wn_E wc_E_isPaper ck_E_isPaper ⟨rfl, rfl⟩ ⟨by decide, by decide⟩ ⟨Nat.zero_le _, Nat.zero_le _⟩ hl.1 rfl (Nat.le_of_ble_eq_true rfl) d_E_rule_9 ?_
    refine lv_if_eq (tgt := 26) hx hb d_E_rule_12 rfl (fun hc => ?_) (fun hc => ?_)
    · have hf := ite_t hc hf
      exact K26 a1 a2 a3 a4 _  hl hf
    · have hf := ite_f hc hf
      refine lv_iload_n hx hb d_E_rule_15 rfl (lv_at hl 3 rfl) ?_
      obtain ⟨r4, hr4, hf⟩ := xbd_some hf
      refine xc_rs (rest := []) F hT hK hP (tE_isPaper l G c3 ad M a3 r4 hr4) wl_E_30 ws_E_isPaper wn_E wc_E_isPaper ck_E_isPaper ⟨rfl, rfl⟩ ⟨by decide, by decide⟩ ⟨Nat.zero_le _, Nat.zero_le _⟩ hl.1 rfl (Nat.le_of_ble_eq_true rfl) d_E_rule_16 ?_
      refine lv_if_eq (tgt := 26) hx hb d_E_rule_19 rfl (fun hc => ?_) (fun hc => ?_)
      · have hf := ite_t hc hf
        exact K26 a1 a2 a3 a4 _  hl hf
      · have hf := ite_f hc hf
        refine lv_iconst (v := 1) hx hb d_E_rule_22 rfl ?_
        refine lv_goto (tgt := 27) hx hb d_E_rule_23 rfl ?_
        exact K27 a1 a2 a3 a4 1 _  hl hf
noncomputable def kE_fix_24 (v1 v2 s24_0 : Int32) (M : Mem) : Option Nat := if s24_0 = 0 then some 1 else (none)
noncomputable def kE_fix_23 (v1 v2 : Int32) (M : Mem) : Option Nat := kE_fix_24 v1 v2 0 M
noncomputable def kE_fix_19 (v1 v2 : Int32) (M : Mem) : Option Nat := kE_fix_24 v1 v2 1 M
noncomputable def kE_fix (a1 a2 : Int32) (M : Mem) : Option Nat := xbd (fE_isPaper a1) (fun r1 => if r1 = 0 then (kE_fix_23 a1 a2 M) else (if a2 = (-1) then (kE_fix_19 a1 a2 M) else (xbd (fE_isSession a2) (fun r2 => if r2 = 0 then (kE_fix_23 a1 a2 M) else (kE_fix_19 a1 a2 M)))))
set_option maxHeartbeats 4000000 in
set_option maxRecDepth 100000 in
theorem uE_fix (l : Launch) (hfl : l.flags = flags0) (G : va_G) (c3 : ClassId × ClassId × ClassId) (ad : Nat → Nat) (N : Nat) (M : Mem) (a1 a2 : Int32) (out : Nat) (hf : kE_fix a1 a2 M = some out) : TMet l yE_fix cE_fix 4 (some .int) (rm1_ 7 110) (va_Pc [.ref (ad 0), .int a1, .int a2] (okX N G SX c3 ad M)) (xcls out) 1 6 := by
  refine TMet.of (by decide +kernel) (Nat.le_of_ble_eq_true rfl) (fun p e s m args below meth c ls hx hb hml hown B hr hlk hout hl => ?_)
  obtain ⟨⟨hT, hK, hP⟩, hX⟩ := B
  have hown : s.vm.findClass RE = some m.cls := hown
  have F : CallFix p m c cE_fix 4 s args gw RE := ⟨hx, hb, hml, hown, hT.hts args⟩
  have hl : lv_has ls 4 [(0, .ref (ad 0)), (1, .int a1), (2, .int a2)] := hl
  have K24 : ∀ (v1 v2 s24_0 : Int32) (ls : Array Slot), lv_has ls 4 [(0, .ref (ad 0)), (1, .int v1), (2, .int v2)] → kE_fix_24 v1 v2 s24_0 M = some out → W p l e (rm1_ 7 110) s m args below meth c s.heap [] 0 0 (TQ below (xcls out) s 1 6) (F0 m 24 ls [.int s24_0]) := by
    intro v1 v2 s24_0 ls  hl hf
    unfold kE_fix_24 at hf
    by_cases hc : s24_0 = 0
    · have hf := ite_t hc hf
      cases hf
      exact xt_out (xt_runS (rest := []) F hT (uE_mustExist l hfl G c3 ad N M s24_0 1 (by unfold kE_mustExist; exact if_pos hc)) (okX.pre hT hK hP hX) wl_E_34 ws_E_mustExist wn_E wc_E_mustExist ck_E_mustExist ⟨by decide, by decide⟩ ⟨by decide, by decide⟩ hl.1 rfl (Nat.le_of_ble_eq_true rfl) d_E_fix_24) hout hlk
    · have hf := ite_f hc hf
      refine xc_vs (rest := []) F hT hK hP (tE_mustExist l G c3 ad M s24_0 (out := ()) (by unfold fE_mustExist; exact if_neg hc)) wl_E_34 ws_E_mustExist wn_E wc_E_mustExist ck_E_mustExist ⟨rfl, rfl⟩ ⟨by decide, by decide⟩ ⟨Nat.zero_le _, Nat.zero_le _⟩ hl.1 rfl (Nat.le_of_ble_eq_true rfl) d_E_fix_24 ?_
      refine lv_aload_n hx hb d_E_fix_27 rfl (lv_at hl 0 rfl) ?_
      exact no_some hf
  have K23 : ∀ (v1 v2 : Int32) (ls : Array Slot), lv_has ls 4 [(0, .ref (ad 0)), (1, .int v1), (2, .int v2)] → kE_fix_23 v1 v2 M = some out → W p l e (rm1_ 7 110) s m args below meth c s.heap [] 0 0 (TQ below (xcls out) s 1 6) (F0 m 23 ls []) := by
    intro v1 v2 ls  hl hf
    unfold kE_fix_23 at hf
    refine lv_iconst (v := 0) hx hb d_E_fix_23 rfl ?_
    exact K24 v1 v2 0 _  hl hf
  have K19 : ∀ (v1 v2 : Int32) (ls : Array Slot), lv_has ls 4 [(0, .ref (ad 0)), (1, .int v1), (2, .int v2)] → kE_fix_19 v1 v2 M = some out → W p l e (rm1_ 7 110) s m args below meth c s.heap [] 0 0 (TQ below (xcls out) s 1 6) (F0 m 19 ls []) := by
    intro v1 v2 ls  hl hf
    unfold kE_fix_19 at hf
    refine lv_iconst (v := 1) hx hb d_E_fix_19 rfl ?_
    refine lv_goto (tgt := 24) hx hb d_E_fix_20 rfl ?_
    exact K24 v1 v2 1 _  hl hf
  unfold kE_fix at hf
  refine lv_iload_n hx hb d_E_fix_0 rfl (lv_at hl 1 rfl) ?_
  obtain ⟨r1, hr1, hf⟩ := xbd_some hf
  refine xc_rs (rest := []) F hT hK hP (tE_isPaper l G c3 ad M a1 r1 hr1) wl_E_30 ws_E_isPaper wn_E wc_E_isPaper ck_E_isPaper ⟨rfl, rfl⟩ ⟨by decide, by decide⟩ ⟨Nat.zero_le _, Nat.zero_le _⟩ hl.1 rfl (Nat.le_of_ble_eq_true rfl) d_E_fix_1 ?_
  refine lv_if_eq (tgt := 23) hx hb d_E_fix_4 rfl (fun hc => ?_) (fun hc => ?_)
  · have hf := ite_t hc hf
    exact K23 a1 a2 _  hl hf
  · have hf := ite_f hc hf
    refine lv_iload_n hx hb d_E_fix_7 rfl (lv_at hl 2 rfl) ?_
    refine lv_iconst (v := (-1)) hx hb d_E_fix_8 rfl ?_
    refine lv_icmp_eq (tgt := 19) hx hb d_E_fix_9 rfl (fun hc => ?_) (fun hc => ?_)
    · have hf := ite_t hc hf
      exact K19 a1 a2 _  hl hf
    · have hf := ite_f hc hf
      refine lv_iload_n hx hb d_E_fix_12 rfl (lv_at hl 2 rfl) ?_
      obtain ⟨r2, hr2, hf⟩ := xbd_some hf
      refine xc_rs (rest := []) F hT hK hP (tE_isSession l G c3 ad M a2 r2 hr2) wl_E_52 ws_E_isSession wn_E wc_E_isSession ck_E_isSession ⟨rfl, rfl⟩ ⟨by decide, by decide⟩ ⟨Nat.zero_le _, Nat.zero_le _⟩ hl.1 rfl (Nat.le_of_ble_eq_true rfl) d_E_fix_13 ?_
      refine lv_if_eq (tgt := 23) hx hb d_E_fix_16 rfl (fun hc => ?_) (fun hc => ?_)
      · have hf := ite_t hc hf
        exact K23 a1 a2 _  hl hf
      · have hf := ite_f hc hf
        exact K19 a1 a2 _  hl hf
noncomputable def kE_clash_19 (v1 v2 s19_0 : Int32) (M : Mem) : Option Nat := if s19_0 = 0 then some 1 else (xbd (fT_enrolledForBoth v1 v2 M) (fun r1 => none))
noncomputable def kE_clash_18 (v1 v2 : Int32) (M : Mem) : Option Nat := kE_clash_19 v1 v2 0 M
noncomputable def kE_clash (a1 a2 : Int32) (M : Mem) : Option Nat := xbd (fE_isPaper a1) (fun r2 => if r2 = 0 then (kE_clash_18 a1 a2 M) else (xbd (fE_isPaper a2) (fun r3 => if r3 = 0 then (kE_clash_18 a1 a2 M) else (kE_clash_19 a1 a2 1 M))))
set_option maxHeartbeats 4000000 in
set_option maxRecDepth 100000 in
theorem uE_clash (l : Launch) (hfl : l.flags = flags0) (G : va_G) (c3 : ClassId × ClassId × ClassId) (ad : Nat → Nat) (N : Nat) (M : Mem) (a1 a2 : Int32) (out : Nat) (hf : kE_clash a1 a2 M = some out) : TMet l yE_clash cE_clash 3 (some .int) (rm1_ 7 110) (va_Pc [.ref (ad 0), .int a1, .int a2] (okX N G SX c3 ad M)) (xcls out) 1 6 := by
  refine TMet.of (by decide +kernel) (Nat.le_of_ble_eq_true rfl) (fun p e s m args below meth c ls hx hb hml hown B hr hlk hout hl => ?_)
  obtain ⟨⟨hT, hK, hP⟩, hX⟩ := B
  have hown : s.vm.findClass RE = some m.cls := hown
  have F : CallFix p m c cE_clash 3 s args gw RE := ⟨hx, hb, hml, hown, hT.hts args⟩
  have hl : lv_has ls 3 [(0, .ref (ad 0)), (1, .int a1), (2, .int a2)] := hl
  have K19 : ∀ (v1 v2 s19_0 : Int32) (ls : Array Slot), lv_has ls 3 [(0, .ref (ad 0)), (1, .int v1), (2, .int v2)] → kE_clash_19 v1 v2 s19_0 M = some out → W p l e (rm1_ 7 110) s m args below meth c s.heap [] 0 0 (TQ below (xcls out) s 1 6) (F0 m 19 ls [.int s19_0]) := by
    intro v1 v2 s19_0 ls  hl hf
    unfold kE_clash_19 at hf
    by_cases hc : s19_0 = 0
    · have hf := ite_t hc hf
      cases hf
      exact xt_out (xt_runS (rest := []) F hT (uE_mustExist l hfl G c3 ad N M s19_0 1 (by unfold kE_mustExist; exact if_pos hc)) (okX.pre hT hK hP hX) wl_E_34 ws_E_mustExist wn_E wc_E_mustExist ck_E_mustExist ⟨by decide, by decide⟩ ⟨by decide, by decide⟩ hl.1 rfl (Nat.le_of_ble_eq_true rfl) d_E_clash_19) hout hlk
    · have hf := ite_f hc hf
      refine xc_vs (rest := []) F hT hK hP (tE_mustExist l G c3 ad M s19_0 (out := ()) (by unfold fE_mustExist; exact if_neg hc)) wl_E_34 ws_E_mustExist wn_E wc_E_mustExist ck_E_mustExist ⟨rfl, rfl⟩ ⟨by decide, by decide⟩ ⟨Nat.zero_le _, Nat.zero_le _⟩ hl.1 rfl (Nat.le_of_ble_eq_true rfl) d_E_clash_19 ?_
      refine lv_aload_n hx hb d_E_clash_22 rfl (lv_at hl 0 rfl) ?_
      refine xr_getr hx hb hT hown hK hP sX_0 rfl inE 0 (by decide) wf_E_12 rfl d_E_clash_23 ?_
      refine lv_iload_n hx hb d_E_clash_26 rfl (lv_at hl 1 rfl) ?_
      refine lv_iload_n hx hb d_E_clash_27 rfl (lv_at hl 2 rfl) ?_
      obtain ⟨r1, hr1, hf⟩ := xbd_some hf
      refine xc_rv (rest := []) F hT hK hP (tT_enrolledForBoth l G c3 ad M v1 v2 r1 hr1) sX_1 rfl wl_E_89 wi_T_enrolledForBoth we_T_enrolledForBoth wn_T wc_T_enrolledForBoth ck_T_enrolledForBoth ⟨rfl, rfl⟩ ⟨by decide, by decide⟩ ⟨Nat.zero_le _, Nat.zero_le _⟩ hl.1 rfl (Nat.le_of_ble_eq_true rfl) d_E_clash_28 ?_
      exact no_some hf
  have K18 : ∀ (v1 v2 : Int32) (ls : Array Slot), lv_has ls 3 [(0, .ref (ad 0)), (1, .int v1), (2, .int v2)] → kE_clash_18 v1 v2 M = some out → W p l e (rm1_ 7 110) s m args below meth c s.heap [] 0 0 (TQ below (xcls out) s 1 6) (F0 m 18 ls []) := by
    intro v1 v2 ls  hl hf
    unfold kE_clash_18 at hf
    refine lv_iconst (v := 0) hx hb d_E_clash_18 rfl ?_
    exact K19 v1 v2 0 _  hl hf
  unfold kE_clash at hf
  refine lv_iload_n hx hb d_E_clash_0 rfl (lv_at hl 1 rfl) ?_
  obtain ⟨r2, hr2, hf⟩ := xbd_some hf
  refine xc_rs (rest := []) F hT hK hP (tE_isPaper l G c3 ad M a1 r2 hr2) wl_E_30 ws_E_isPaper wn_E wc_E_isPaper ck_E_isPaper ⟨rfl, rfl⟩ ⟨by decide, by decide⟩ ⟨Nat.zero_le _, Nat.zero_le _⟩ hl.1 rfl (Nat.le_of_ble_eq_true rfl) d_E_clash_1 ?_
  refine lv_if_eq (tgt := 18) hx hb d_E_clash_4 rfl (fun hc => ?_) (fun hc => ?_)
  · have hf := ite_t hc hf
    exact K18 a1 a2 _  hl hf
  · have hf := ite_f hc hf
    refine lv_iload_n hx hb d_E_clash_7 rfl (lv_at hl 2 rfl) ?_
    obtain ⟨r3, hr3, hf⟩ := xbd_some hf
    refine xc_rs (rest := []) F hT hK hP (tE_isPaper l G c3 ad M a2 r3 hr3) wl_E_30 ws_E_isPaper wn_E wc_E_isPaper ck_E_isPaper ⟨rfl, rfl⟩ ⟨by decide, by decide⟩ ⟨Nat.zero_le _, Nat.zero_le _⟩ hl.1 rfl (Nat.le_of_ble_eq_true rfl) d_E_clash_8 ?_
    refine lv_if_eq (tgt := 18) hx hb d_E_clash_11 rfl (fun hc => ?_) (fun hc => ?_)
    · have hf := ite_t hc hf
      exact K18 a1 a2 _  hl hf
    · have hf := ite_f hc hf
      refine lv_iconst (v := 1) hx hb d_E_clash_14 rfl ?_
      refine lv_goto (tgt := 19) hx hb d_E_clash_15 rfl ?_
      exact K19 a1 a2 1 _  hl hf
noncomputable def kE_planned (a1 : Int32) (M : Mem) : Option Nat := xbd (fE_isPaper a1) (fun r1 => if r1 = 0 then some 1 else (xgd (vp_in a1 9) (none)))
set_option maxHeartbeats 4000000 in
set_option maxRecDepth 100000 in
theorem uE_planned (l : Launch) (hfl : l.flags = flags0) (G : va_G) (c3 : ClassId × ClassId × ClassId) (ad : Nat → Nat) (N : Nat) (M : Mem) (a1 : Int32) (out : Nat) (hf : kE_planned a1 M = some out) : TMet l yE_planned cE_planned 2 (some .int) (rm1_ 7 110) (va_Pc [.ref (ad 0), .int a1] (okX N G SX c3 ad M)) (xcls out) 1 6 := by
  refine TMet.of (by decide +kernel) (Nat.le_of_ble_eq_true rfl) (fun p e s m args below meth c ls hx hb hml hown B hr hlk hout hl => ?_)
  obtain ⟨⟨hT, hK, hP⟩, hX⟩ := B
  have hown : s.vm.findClass RE = some m.cls := hown
  have F : CallFix p m c cE_planned 2 s args gw RE := ⟨hx, hb, hml, hown, hT.hts args⟩
  have hl : lv_has ls 2 [(0, .ref (ad 0)), (1, .int a1)] := hl
  unfold kE_planned at hf
  refine lv_iload_n hx hb d_E_planned_0 rfl (lv_at hl 1 rfl) ?_
  obtain ⟨r1, hr1, hf⟩ := xbd_some hf
  refine xc_rs (rest := []) F hT hK hP (tE_isPaper l G c3 ad M a1 r1 hr1) wl_E_30 ws_E_isPaper wn_E wc_E_isPaper ck_E_isPaper ⟨rfl, rfl⟩ ⟨by decide, by decide⟩ ⟨Nat.zero_le _, Nat.zero_le _⟩ hl.1 rfl (Nat.le_of_ble_eq_true rfl) d_E_planned_1 ?_
  by_cases hc : r1 = 0
  · have hf := ite_t hc hf
    cases hf
    exact xt_out (xt_runS (rest := []) F hT (uE_mustExist l hfl G c3 ad N M r1 1 (by unfold kE_mustExist; exact if_pos hc)) (okX.pre hT hK hP hX) wl_E_34 ws_E_mustExist wn_E wc_E_mustExist ck_E_mustExist ⟨by decide, by decide⟩ ⟨by decide, by decide⟩ hl.1 rfl (Nat.le_of_ble_eq_true rfl) d_E_planned_4) hout hlk
  · have hf := ite_f hc hf
    refine xc_vs (rest := []) F hT hK hP (tE_mustExist l G c3 ad M r1 (out := ()) (by unfold fE_mustExist; exact if_neg hc)) wl_E_34 ws_E_mustExist wn_E wc_E_mustExist ck_E_mustExist ⟨rfl, rfl⟩ ⟨by decide, by decide⟩ ⟨Nat.zero_le _, Nat.zero_le _⟩ hl.1 rfl (Nat.le_of_ble_eq_true rfl) d_E_planned_4 ?_
    refine lv_aload_n hx hb d_E_planned_7 rfl (lv_at hl 0 rfl) ?_
    refine xr_getr hx hb hT hown hK hP sX_0 rfl inE 0 (by decide) wf_E_12 rfl d_E_planned_8 ?_
    refine xr_getr hx hb hT hown hK hP sX_1 rfl inT 6 (by decide) wf_E_97 rfl d_E_planned_11 ?_
    refine lv_iload_n hx hb d_E_planned_14 rfl (lv_at hl 1 rfl) ?_
    obtain ⟨g2, hf⟩ := xgd_some hf
    refine xr_iald hx hb hK hP sX_11 g2 d_E_planned_15 ?_
    exact no_some hf
noncomputable def kE_room_30 (v1 v2 v3 v4 s30_0 : Int32) (M : Mem) : Option Nat := if s30_0 = 0 then some 2 else (none)
noncomputable def kE_room_29 (v1 v2 v3 v4 : Int32) (M : Mem) : Option Nat := kE_room_30 v1 v2 v3 v4 0 M
noncomputable def kE_room (a1 a2 a3 a4 : Int32) (M : Mem) : Option Nat := xbd (fE_isRoom a1) (fun r1 => if r1 = 0 then some 1 else (xbd (fE_isUpTo a2 6) (fun r2 => if r2 = 0 then (kE_room_29 a1 a2 a3 a4 M) else (xbd (fE_isUpTo a3 6) (fun r3 => if r3 = 0 then (kE_room_29 a1 a2 a3 a4 M) else (kE_room_30 a1 a2 a3 a4 1 M))))))
set_option maxHeartbeats 4000000 in
set_option maxRecDepth 100000 in
theorem uE_room (l : Launch) (hfl : l.flags = flags0) (G : va_G) (c3 : ClassId × ClassId × ClassId) (ad : Nat → Nat) (N : Nat) (M : Mem) (a1 a2 a3 a4 : Int32) (out : Nat) (hf : kE_room a1 a2 a3 a4 M = some out) : TMet l yE_room cE_room 5 none (rm1_ 7 110) (va_Pc [.ref (ad 0), .int a1, .int a2, .int a3, .int a4] (okX N G SX c3 ad M)) (xcls out) 1 6 := by
  refine TMet.of (by decide +kernel) (Nat.le_of_ble_eq_true rfl) (fun p e s m args below meth c ls hx hb hml hown B hr hlk hout hl => ?_)
  obtain ⟨⟨hT, hK, hP⟩, hX⟩ := B
  have hown : s.vm.findClass RE = some m.cls := hown
  have F : CallFix p m c cE_room 5 s args gw RE := ⟨hx, hb, hml, hown, hT.hts args⟩
  have hl : lv_has ls 5 [(0, .ref (ad 0)), (1, .int a1), (2, .int a2), (3, .int a3), (4, .int a4)] := hl
  have K30 : ∀ (v1 v2 v3 v4 s30_0 : Int32) (ls : Array Slot), lv_has ls 5 [(0, .ref (ad 0)), (1, .int v1), (2, .int v2), (3, .int v3), (4, .int v4)] → kE_room_30 v1 v2 v3 v4 s30_0 M = some out → W p l e (rm1_ 7 110) s m args below meth c s.heap [] 0 0 (TQ below (xcls out) s 1 6) (F0 m 30 ls [.int s30_0]) := by
    intro v1 v2 v3 v4 s30_0 ls  hl hf
    unfold kE_room_30 at hf
    by_cases hc : s30_0 = 0
    · have hf := ite_t hc hf
      cases hf
      exact xt_out (xt_runS (rest := []) F hT (uE_mustBeAllowed l hfl G c3 ad N M s30_0 2 (by unfold kE_mustBeAllowed; exact if_pos hc)) (okX.pre hT hK hP hX) wl_E_42 ws_E_mustBeAllowed wn_E wc_E_mustBeAllowed ck_E_mustBeAllowed ⟨by decide, by decide⟩ ⟨by decide, by decide⟩ hl.1 rfl (Nat.le_of_ble_eq_true rfl) d_E_room_30) hout hlk
    · have hf := ite_f hc hf
      refine xc_vs (rest := []) F hT hK hP (tE_mustBeAllowed l G c3 ad M s30_0 (out := ()) (by unfold fE_mustBeAllowed; exact if_neg hc)) wl_E_42 ws_E_mustBeAllowed wn_E wc_E_mustBeAllowed ck_E_mustBeAllowed ⟨rfl, rfl⟩ ⟨by decide, by decide⟩ ⟨Nat.zero_le _, Nat.zero_le _⟩ hl.1 rfl (Nat.le_of_ble_eq_true rfl) d_E_room_30 ?_
      refine lv_aload_n hx hb d_E_room_33 rfl (lv_at hl 0 rfl) ?_
      refine xr_getr hx hb hT hown hK hP sX_0 rfl inE 1 (by decide) wf_E_19 rfl d_E_room_34 ?_
      refine lv_iload_n hx hb d_E_room_37 rfl (lv_at hl 1 rfl) ?_
      refine lv_iload_n hx hb d_E_room_38 rfl (lv_at hl 2 rfl) ?_
      refine lv_iload_n hx hb d_E_room_39 rfl (lv_at hl 3 rfl) ?_
      refine lv_iload hx hb d_E_room_40 (lv_at hl 4 rfl) ?_
      exact no_some hf
  have K29 : ∀ (v1 v2 v3 v4 : Int32) (ls : Array Slot), lv_has ls 5 [(0, .ref (ad 0)), (1, .int v1), (2, .int v2), (3, .int v3), (4, .int v4)] → kE_room_29 v1 v2 v3 v4 M = some out → W p l e (rm1_ 7 110) s m args below meth c s.heap [] 0 0 (TQ below (xcls out) s 1 6) (F0 m 29 ls []) := by
    intro v1 v2 v3 v4 ls  hl hf
    unfold kE_room_29 at hf
    refine lv_iconst (v := 0) hx hb d_E_room_29 rfl ?_
    exact K30 v1 v2 v3 v4 0 _  hl hf
  unfold kE_room at hf
  refine lv_iload_n hx hb d_E_room_0 rfl (lv_at hl 1 rfl) ?_
  obtain ⟨r1, hr1, hf⟩ := xbd_some hf
  refine xc_rs (rest := []) F hT hK hP (tE_isRoom l G c3 ad M a1 r1 hr1) wl_E_103 ws_E_isRoom wn_E wc_E_isRoom ck_E_isRoom ⟨rfl, rfl⟩ ⟨by decide, by decide⟩ ⟨Nat.zero_le _, Nat.zero_le _⟩ hl.1 rfl (Nat.le_of_ble_eq_true rfl) d_E_room_1 ?_
  by_cases hc : r1 = 0
  · have hf := ite_t hc hf
    cases hf
    exact xt_out (xt_runS (rest := []) F hT (uE_mustExist l hfl G c3 ad N M r1 1 (by unfold kE_mustExist; exact if_pos hc)) (okX.pre hT hK hP hX) wl_E_34 ws_E_mustExist wn_E wc_E_mustExist ck_E_mustExist ⟨by decide, by decide⟩ ⟨by decide, by decide⟩ hl.1 rfl (Nat.le_of_ble_eq_true rfl) d_E_room_4) hout hlk
  · have hf := ite_f hc hf
    refine xc_vs (rest := []) F hT hK hP (tE_mustExist l G c3 ad M r1 (out := ()) (by unfold fE_mustExist; exact if_neg hc)) wl_E_34 ws_E_mustExist wn_E wc_E_mustExist ck_E_mustExist ⟨rfl, rfl⟩ ⟨by decide, by decide⟩ ⟨Nat.zero_le _, Nat.zero_le _⟩ hl.1 rfl (Nat.le_of_ble_eq_true rfl) d_E_room_4 ?_
    refine lv_iload_n hx hb d_E_room_7 rfl (lv_at hl 2 rfl) ?_
    refine lv_bipush (v := 6) hx hb d_E_room_8 rfl ?_
    obtain ⟨r2, hr2, hf⟩ := xbd_some hf
    refine xc_rs (rest := []) F hT hK hP (tE_isUpTo l G c3 ad M a2 6 r2 hr2) wl_E_38 ws_E_isUpTo wn_E wc_E_isUpTo ck_E_isUpTo ⟨rfl, rfl⟩ ⟨by decide, by decide⟩ ⟨Nat.zero_le _, Nat.zero_le _⟩ hl.1 rfl (Nat.le_of_ble_eq_true rfl) d_E_room_10 ?_
    refine lv_if_eq (tgt := 29) hx hb d_E_room_13 rfl (fun hc => ?_) (fun hc => ?_)
    · have hf := ite_t hc hf
      exact K29 a1 a2 a3 a4 _  hl hf
    · have hf := ite_f hc hf
      refine lv_iload_n hx hb d_E_room_16 rfl (lv_at hl 3 rfl) ?_
      refine lv_bipush (v := 6) hx hb d_E_room_17 rfl ?_
      obtain ⟨r3, hr3, hf⟩ := xbd_some hf
      refine xc_rs (rest := []) F hT hK hP (tE_isUpTo l G c3 ad M a3 6 r3 hr3) wl_E_38 ws_E_isUpTo wn_E wc_E_isUpTo ck_E_isUpTo ⟨rfl, rfl⟩ ⟨by decide, by decide⟩ ⟨Nat.zero_le _, Nat.zero_le _⟩ hl.1 rfl (Nat.le_of_ble_eq_true rfl) d_E_room_19 ?_
      refine lv_if_eq (tgt := 29) hx hb d_E_room_22 rfl (fun hc => ?_) (fun hc => ?_)
      · have hf := ite_t hc hf
        exact K29 a1 a2 a3 a4 _  hl hf
      · have hf := ite_f hc hf
        refine lv_iconst (v := 1) hx hb d_E_room_25 rfl ?_
        refine lv_goto (tgt := 30) hx hb d_E_room_26 rfl ?_
        exact K30 a1 a2 a3 a4 1 _  hl hf
noncomputable def kE_block_78 (v4 v5 s78_0 : Int32) (M : Mem) : Option Nat := none
noncomputable def kE_block_25 (v1 v2 v3 v4 s25_0 : Int32) (M : Mem) : Option Nat := if s25_0 = 0 then some 1 else (xbd (fE_placeAt v1 v2 v3) (fun r1 => xbd (fR_isTaken r1 M) (fun r2 => if r2 = 0 then (xgd (vp_in r1 144) (if (M 22 r1.toNatClampNeg) = v4 then (kE_block_78 v4 r1 0 M) else (kE_block_78 v4 r1 1 M))) else (some 3))))
noncomputable def kE_block_24 (v1 v2 v3 v4 : Int32) (M : Mem) : Option Nat := kE_block_25 v1 v2 v3 v4 0 M
noncomputable def kE_block (a1 a2 a3 a4 : Int32) (M : Mem) : Option Nat := xbd (fE_isRoom a1) (fun r4 => if r4 = 0 then (kE_block_24 a1 a2 a3 a4 M) else (xbd (fR_hasPlace a1 a2 a3 M) (fun r5 => if r5 = 0 then (kE_block_24 a1 a2 a3 a4 M) else (kE_block_25 a1 a2 a3 a4 1 M))))
set_option maxHeartbeats 4000000 in
set_option maxRecDepth 100000 in
theorem uE_block (l : Launch) (hfl : l.flags = flags0) (G : va_G) (c3 : ClassId × ClassId × ClassId) (ad : Nat → Nat) (N : Nat) (M : Mem) (a1 a2 a3 a4 : Int32) (out : Nat) (hf : kE_block a1 a2 a3 a4 M = some out) : TMet l yE_block cE_block 7 (some .boolean) (rm1_ 7 110) (va_Pc [.ref (ad 0), .int a1, .int a2, .int a3, .int a4] (okX N G SX c3 ad M)) (xcls out) 1 6 := by
  refine TMet.of (by decide +kernel) (Nat.le_of_ble_eq_true rfl) (fun p e s m args below meth c ls hx hb hml hown B hr hlk hout hl => ?_)
  obtain ⟨⟨hT, hK, hP⟩, hX⟩ := B
  have hown : s.vm.findClass RE = some m.cls := hown
  have F : CallFix p m c cE_block 7 s args gw RE := ⟨hx, hb, hml, hown, hT.hts args⟩
  have hl : lv_has ls 7 [(0, .ref (ad 0)), (1, .int a1), (2, .int a2), (3, .int a3), (4, .int a4)] := hl
  have K78 : ∀ (v4 v5 s78_0 : Int32) (ls : Array Slot), lv_has ls 7 [(0, .ref (ad 0)), (4, .int v4), (5, .int v5)] → kE_block_78 v4 v5 s78_0 M = some out → W p l e (rm1_ 7 110) s m args below meth c s.heap [] 0 0 (TQ below (xcls out) s 1 6) (F0 m 78 ls [.int s78_0]) := by
    intro v4 v5 s78_0 ls  hl hf
    unfold kE_block_78 at hf
    refine lv_istore (lv' := [(6, .int s78_0), (0, .ref (ad 0)), (4, .int v4), (5, .int v5)]) hx hb d_E_block_78 hl (by decide) rfl (fun ls hl => ?_)
    refine lv_aload_n hx hb d_E_block_80 rfl (lv_at hl 1 rfl) ?_
    refine xr_getr hx hb hT hown hK hP sX_0 rfl inE 1 (by decide) wf_E_19 rfl d_E_block_81 ?_
    refine xr_getr hx hb hT hown hK hP sX_18 rfl inR 3 (by decide) wf_E_129 rfl d_E_block_84 ?_
    refine lv_iload hx hb d_E_block_87 (lv_at hl 3 rfl) ?_
    refine lv_iload hx hb d_E_block_89 (lv_at hl 2 rfl) ?_
    exact no_some hf
  have K25 : ∀ (v1 v2 v3 v4 s25_0 : Int32) (ls : Array Slot), lv_has ls 7 [(0, .ref (ad 0)), (1, .int v1), (2, .int v2), (3, .int v3), (4, .int v4)] → kE_block_25 v1 v2 v3 v4 s25_0 M = some out → W p l e (rm1_ 7 110) s m args below meth c s.heap [] 0 0 (TQ below (xcls out) s 1 6) (F0 m 25 ls [.int s25_0]) := by
    intro v1 v2 v3 v4 s25_0 ls  hl hf
    unfold kE_block_25 at hf
    by_cases hc : s25_0 = 0
    · have hf := ite_t hc hf
      cases hf
      exact xt_out (xt_runS (rest := []) F hT (uE_mustExist l hfl G c3 ad N M s25_0 1 (by unfold kE_mustExist; exact if_pos hc)) (okX.pre hT hK hP hX) wl_E_34 ws_E_mustExist wn_E wc_E_mustExist ck_E_mustExist ⟨by decide, by decide⟩ ⟨by decide, by decide⟩ hl.1 rfl (Nat.le_of_ble_eq_true rfl) d_E_block_25) hout hlk
    · have hf := ite_f hc hf
      refine xc_vs (rest := []) F hT hK hP (tE_mustExist l G c3 ad M s25_0 (out := ()) (by unfold fE_mustExist; exact if_neg hc)) wl_E_34 ws_E_mustExist wn_E wc_E_mustExist ck_E_mustExist ⟨rfl, rfl⟩ ⟨by decide, by decide⟩ ⟨Nat.zero_le _, Nat.zero_le _⟩ hl.1 rfl (Nat.le_of_ble_eq_true rfl) d_E_block_25 ?_
      refine lv_iload_n hx hb d_E_block_28 rfl (lv_at hl 1 rfl) ?_
      refine lv_iload_n hx hb d_E_block_29 rfl (lv_at hl 2 rfl) ?_
      refine lv_iload_n hx hb d_E_block_30 rfl (lv_at hl 3 rfl) ?_
      obtain ⟨r1, hr1, hf⟩ := xbd_some hf
      refine xc_rs (rest := []) F hT hK hP (tE_placeAt l G c3 ad M v1 v2 v3 r1 hr1) wl_E_115 ws_E_placeAt wn_E wc_E_placeAt ck_E_placeAt ⟨rfl, rfl⟩ ⟨by decide, by decide⟩ ⟨Nat.zero_le _, Nat.zero_le _⟩ hl.1 rfl (Nat.le_of_ble_eq_true rfl) d_E_block_31 ?_
      refine lv_istore (lv' := [(5, .int r1), (0, .ref (ad 0)), (1, .int v1), (2, .int v2), (3, .int v3), (4, .int v4)]) hx hb d_E_block_34 hl (by decide) rfl (fun ls hl => ?_)
      refine lv_aload_n hx hb d_E_block_36 rfl (lv_at hl 1 rfl) ?_
      refine xr_getr hx hb hT hown hK hP sX_0 rfl inE 1 (by decide) wf_E_19 rfl d_E_block_37 ?_
      refine lv_iload hx hb d_E_block_40 (lv_at hl 0 rfl) ?_
      obtain ⟨r2, hr2, hf⟩ := xbd_some hf
      refine xc_rv (rest := []) F hT hK hP (tR_isTaken l G c3 ad M r1 r2 hr2) sX_18 rfl wl_E_119 wi_R_isTaken we_R_isTaken wn_R wc_R_isTaken ck_R_isTaken ⟨rfl, rfl⟩ ⟨by decide, by decide⟩ ⟨Nat.zero_le _, Nat.zero_le _⟩ hl.1 rfl (Nat.le_of_ble_eq_true rfl) d_E_block_42 ?_
      refine lv_if_eq (tgt := 58) hx hb d_E_block_45 rfl (fun hc => ?_) (fun hc => ?_)
      · have hf := ite_t hc hf
        refine lv_aload_n hx hb d_E_block_58 rfl (lv_at hl 1 rfl) ?_
        refine xr_getr hx hb hT hown hK hP sX_0 rfl inE 1 (by decide) wf_E_19 rfl d_E_block_59 ?_
        refine xr_getr hx hb hT hown hK hP sX_18 rfl inR 3 (by decide) wf_E_129 rfl d_E_block_62 ?_
        refine lv_iload hx hb d_E_block_65 (lv_at hl 0 rfl) ?_
        obtain ⟨g3, hf⟩ := xgd_some hf
        refine xr_zald hx hb hK hP sX_22 g3 d_E_block_67 ?_
        refine lv_iload hx hb d_E_block_68 (lv_at hl 5 rfl) ?_
        refine lv_icmp_eq (tgt := 77) hx hb d_E_block_70 rfl (fun hc => ?_) (fun hc => ?_)
        · have hf := ite_t hc hf
          refine lv_iconst (v := 0) hx hb d_E_block_77 rfl ?_
          exact K78 v4 r1 0 _  (lv_sub hl [1, 5, 0] rfl) hf
        · have hf := ite_f hc hf
          refine lv_iconst (v := 1) hx hb d_E_block_73 rfl ?_
          refine lv_goto (tgt := 78) hx hb d_E_block_74 rfl ?_
          exact K78 v4 r1 1 _  (lv_sub hl [1, 5, 0] rfl) hf
      · have hf := ite_f hc hf
        cases hf
        exact xt_throw hx hb hfl hT hX hown (cls := "java/lang/IllegalStateException") (by decide +kernel) wq_E_122 wb_JS wn_JS (List.mem_of_getElem? (i := 2) rfl) xw_S wc_JS_init (ch_S hT hX) d_E_block_48 d_E_block_51 d_E_block_52 d_E_block_54 d_E_block_57 hout hlk (hl.1.trans hml.symm) ⟨by decide, by decide, by decide, by decide⟩
  have K24 : ∀ (v1 v2 v3 v4 : Int32) (ls : Array Slot), lv_has ls 7 [(0, .ref (ad 0)), (1, .int v1), (2, .int v2), (3, .int v3), (4, .int v4)] → kE_block_24 v1 v2 v3 v4 M = some out → W p l e (rm1_ 7 110) s m args below meth c s.heap [] 0 0 (TQ below (xcls out) s 1 6) (F0 m 24 ls []) := by
    intro v1 v2 v3 v4 ls  hl hf
    unfold kE_block_24 at hf
    refine lv_iconst (v := 0) hx hb d_E_block_24 rfl ?_
    exact K25 v1 v2 v3 v4 0 _  hl hf
  unfold kE_block at hf
  refine lv_iload_n hx hb d_E_block_0 rfl (lv_at hl 1 rfl) ?_
  obtain ⟨r4, hr4, hf⟩ := xbd_some hf
  refine xc_rs (rest := []) F hT hK hP (tE_isRoom l G c3 ad M a1 r4 hr4) wl_E_103 ws_E_isRoom wn_E wc_E_isRoom ck_E_isRoom ⟨rfl, rfl⟩ ⟨by decide, by decide⟩ ⟨Nat.zero_le _, Nat.zero_le _⟩ hl.1 rfl (Nat.le_of_ble_eq_true rfl) d_E_block_1 ?_
  refine lv_if_eq (tgt := 24) hx hb d_E_block_4 rfl (fun hc => ?_) (fun hc => ?_)
  · have hf := ite_t hc hf
    exact K24 a1 a2 a3 a4 _  hl hf
  · have hf := ite_f hc hf
    refine lv_aload_n hx hb d_E_block_7 rfl (lv_at hl 0 rfl) ?_
    refine xr_getr hx hb hT hown hK hP sX_0 rfl inE 1 (by decide) wf_E_19 rfl d_E_block_8 ?_
    refine lv_iload_n hx hb d_E_block_11 rfl (lv_at hl 1 rfl) ?_
    refine lv_iload_n hx hb d_E_block_12 rfl (lv_at hl 2 rfl) ?_
    refine lv_iload_n hx hb d_E_block_13 rfl (lv_at hl 3 rfl) ?_
    obtain ⟨r5, hr5, hf⟩ := xbd_some hf
    refine xc_rv (rest := []) F hT hK hP (tR_hasPlace l G c3 ad M a1 a2 a3 r5 hr5) sX_18 rfl wl_E_112 wi_R_hasPlace we_R_hasPlace wn_R wc_R_hasPlace ck_R_hasPlace ⟨rfl, rfl⟩ ⟨by decide, by decide⟩ ⟨Nat.zero_le _, Nat.zero_le _⟩ hl.1 rfl (Nat.le_of_ble_eq_true rfl) d_E_block_14 ?_
    refine lv_if_eq (tgt := 24) hx hb d_E_block_17 rfl (fun hc => ?_) (fun hc => ?_)
    · have hf := ite_t hc hf
      exact K24 a1 a2 a3 a4 _  hl hf
    · have hf := ite_f hc hf
      refine lv_iconst (v := 1) hx hb d_E_block_20 rfl ?_
      refine lv_goto (tgt := 25) hx hb d_E_block_21 rfl ?_
      exact K25 a1 a2 a3 a4 1 _  hl hf
noncomputable def kE_seat (a1 : Int32) (M : Mem) : Option Nat := xbd (fE_isSession a1) (fun r1 => if r1 = 0 then some 1 else (if (M 1 7) = 0 then (some 3) else (none)))
set_option maxHeartbeats 4000000 in
set_option maxRecDepth 100000 in
theorem uE_seat (l : Launch) (hfl : l.flags = flags0) (G : va_G) (c3 : ClassId × ClassId × ClassId) (ad : Nat → Nat) (N : Nat) (M : Mem) (a1 : Int32) (out : Nat) (hf : kE_seat a1 M = some out) : TMet l yE_seat cE_seat 5 (some .int) (rm1_ 7 110) (va_Pc [.ref (ad 0), .int a1] (okX N G SX c3 ad M)) (xcls out) 1 6 := by
  refine TMet.of (by decide +kernel) (Nat.le_of_ble_eq_true rfl) (fun p e s m args below meth c ls hx hb hml hown B hr hlk hout hl => ?_)
  obtain ⟨⟨hT, hK, hP⟩, hX⟩ := B
  have hown : s.vm.findClass RE = some m.cls := hown
  have F : CallFix p m c cE_seat 5 s args gw RE := ⟨hx, hb, hml, hown, hT.hts args⟩
  have hl : lv_has ls 5 [(0, .ref (ad 0)), (1, .int a1)] := hl
  unfold kE_seat at hf
  refine lv_iload_n hx hb d_E_seat_0 rfl (lv_at hl 1 rfl) ?_
  obtain ⟨r1, hr1, hf⟩ := xbd_some hf
  refine xc_rs (rest := []) F hT hK hP (tE_isSession l G c3 ad M a1 r1 hr1) wl_E_52 ws_E_isSession wn_E wc_E_isSession ck_E_isSession ⟨rfl, rfl⟩ ⟨by decide, by decide⟩ ⟨Nat.zero_le _, Nat.zero_le _⟩ hl.1 rfl (Nat.le_of_ble_eq_true rfl) d_E_seat_1 ?_
  by_cases hc : r1 = 0
  · have hf := ite_t hc hf
    cases hf
    exact xt_out (xt_runS (rest := []) F hT (uE_mustExist l hfl G c3 ad N M r1 1 (by unfold kE_mustExist; exact if_pos hc)) (okX.pre hT hK hP hX) wl_E_34 ws_E_mustExist wn_E wc_E_mustExist ck_E_mustExist ⟨by decide, by decide⟩ ⟨by decide, by decide⟩ hl.1 rfl (Nat.le_of_ble_eq_true rfl) d_E_seat_4) hout hlk
  · have hf := ite_f hc hf
    refine xc_vs (rest := []) F hT hK hP (tE_mustExist l G c3 ad M r1 (out := ()) (by unfold fE_mustExist; exact if_neg hc)) wl_E_34 ws_E_mustExist wn_E wc_E_mustExist ck_E_mustExist ⟨rfl, rfl⟩ ⟨by decide, by decide⟩ ⟨Nat.zero_le _, Nat.zero_le _⟩ hl.1 rfl (Nat.le_of_ble_eq_true rfl) d_E_seat_4 ?_
    refine lv_aload_n hx hb d_E_seat_7 rfl (lv_at hl 0 rfl) ?_
    refine xr_getr hx hb hT hown hK hP sX_0 rfl inE 0 (by decide) wf_E_12 rfl d_E_seat_8 ?_
    refine xr_geti hx hb hT hown hK hP sX_1 rfl inT 7 (by decide) wf_E_132 rfl d_E_seat_11 ?_
    refine lv_if_ne (tgt := 27) hx hb d_E_seat_14 rfl (fun hc => ?_) (fun hc => ?_)
    · have hf := ite_f hc hf
      refine lv_iconst (v := 0) hx hb d_E_seat_27 rfl ?_
      refine lv_istore_n (lv' := [(2, .int 0), (0, .ref (ad 0)), (1, .int a1)]) hx hb d_E_seat_28 rfl hl (by decide) rfl (fun ls hl => ?_)
      refine lv_iconst (v := 0) hx hb d_E_seat_29 rfl ?_
      refine lv_istore_n (lv' := [(3, .int 0), (2, .int 0), (0, .ref (ad 0)), (1, .int a1)]) hx hb d_E_seat_30 rfl hl (by decide) rfl (fun ls hl => ?_)
      exact no_some hf
    · have hf := ite_t hc hf
      cases hf
      exact xt_throw hx hb hfl hT hX hown (cls := "java/lang/IllegalStateException") (by decide +kernel) wq_E_122 wb_JS wn_JS (List.mem_of_getElem? (i := 3) rfl) xw_S wc_JS_init (ch_S hT hX) d_E_seat_17 d_E_seat_20 d_E_seat_21 d_E_seat_23 d_E_seat_26 hout hlk (hl.1.trans hml.symm) ⟨by decide, by decide, by decide, by decide⟩
noncomputable def kE_leave_19 (v1 v2 s19_0 : Int32) (M : Mem) : Option Nat := if s19_0 = 0 then some 1 else (xgd (vp_in v2 6) (xgd (vp_in v1 40) (xlt ((M (37 + 1 + v2.toNatClampNeg) v1.toNatClampNeg)) (fun x3 => none))))
noncomputable def kE_leave_18 (v1 v2 : Int32) (M : Mem) : Option Nat := kE_leave_19 v1 v2 0 M
noncomputable def kE_leave (a1 a2 : Int32) (M : Mem) : Option Nat := xbd (fE_isCandidate a1) (fun r4 => if r4 = 0 then (kE_leave_18 a1 a2 M) else (xbd (fE_isSession a2) (fun r5 => if r5 = 0 then (kE_leave_18 a1 a2 M) else (kE_leave_19 a1 a2 1 M))))
set_option maxHeartbeats 4000000 in
set_option maxRecDepth 100000 in
theorem uE_leave (l : Launch) (hfl : l.flags = flags0) (G : va_G) (c3 : ClassId × ClassId × ClassId) (ad : Nat → Nat) (N : Nat) (M : Mem) (a1 a2 : Int32) (out : Nat) (hf : kE_leave a1 a2 M = some out) : TMet l yE_leave cE_leave 4 (some .int) (rm1_ 7 110) (va_Pc [.ref (ad 0), .int a1, .int a2] (okX N G SX c3 ad M)) (xcls out) 1 6 := by
  refine TMet.of (by decide +kernel) (Nat.le_of_ble_eq_true rfl) (fun p e s m args below meth c ls hx hb hml hown B hr hlk hout hl => ?_)
  obtain ⟨⟨hT, hK, hP⟩, hX⟩ := B
  have hown : s.vm.findClass RE = some m.cls := hown
  have F : CallFix p m c cE_leave 4 s args gw RE := ⟨hx, hb, hml, hown, hT.hts args⟩
  have hl : lv_has ls 4 [(0, .ref (ad 0)), (1, .int a1), (2, .int a2)] := hl
  have K19 : ∀ (v1 v2 s19_0 : Int32) (ls : Array Slot), lv_has ls 4 [(0, .ref (ad 0)), (1, .int v1), (2, .int v2)] → kE_leave_19 v1 v2 s19_0 M = some out → W p l e (rm1_ 7 110) s m args below meth c s.heap [] 0 0 (TQ below (xcls out) s 1 6) (F0 m 19 ls [.int s19_0]) := by
    intro v1 v2 s19_0 ls  hl hf
    unfold kE_leave_19 at hf
    by_cases hc : s19_0 = 0
    · have hf := ite_t hc hf
      cases hf
      exact xt_out (xt_runS (rest := []) F hT (uE_mustExist l hfl G c3 ad N M s19_0 1 (by unfold kE_mustExist; exact if_pos hc)) (okX.pre hT hK hP hX) wl_E_34 ws_E_mustExist wn_E wc_E_mustExist ck_E_mustExist ⟨by decide, by decide⟩ ⟨by decide, by decide⟩ hl.1 rfl (Nat.le_of_ble_eq_true rfl) d_E_leave_19) hout hlk
    · have hf := ite_f hc hf
      refine xc_vs (rest := []) F hT hK hP (tE_mustExist l G c3 ad M s19_0 (out := ()) (by unfold fE_mustExist; exact if_neg hc)) wl_E_34 ws_E_mustExist wn_E wc_E_mustExist ck_E_mustExist ⟨rfl, rfl⟩ ⟨by decide, by decide⟩ ⟨Nat.zero_le _, Nat.zero_le _⟩ hl.1 rfl (Nat.le_of_ble_eq_true rfl) d_E_leave_19 ?_
      refine lv_aload_n hx hb d_E_leave_22 rfl (lv_at hl 0 rfl) ?_
      refine xr_getr hx hb hT hown hK hP sX_0 rfl inE 1 (by decide) wf_E_19 rfl d_E_leave_23 ?_
      refine xr_getr hx hb hT hown hK hP sX_18 rfl inR 6 (by decide) wf_E_145 rfl d_E_leave_26 ?_
      refine lv_iload_n hx hb d_E_leave_29 rfl (lv_at hl 2 rfl) ?_
      obtain ⟨g1, hf⟩ := xgd_some hf
      refine xr_aald hx hb hK hP sX_37 g1 d_E_leave_30 ?_
      refine lv_iload_n hx hb d_E_leave_31 rfl (lv_at hl 1 rfl) ?_
      obtain ⟨g2, hf⟩ := xgd_some hf
      refine xr_iald hx hb hK hP (sX_r37 g1) g2 d_E_leave_32 ?_
      obtain ⟨x3, hx3, hf⟩ := xlt_some hf
      refine xr_name hx3 ?_
      refine lv_istore_n (lv' := [(3, .int x3), (0, .ref (ad 0)), (1, .int v1), (2, .int v2)]) hx hb d_E_leave_33 rfl hl (by decide) rfl (fun ls hl => ?_)
      refine lv_aload_n hx hb d_E_leave_34 rfl (lv_at hl 1 rfl) ?_
      refine xr_getr hx hb hT hown hK hP sX_0 rfl inE 1 (by decide) wf_E_19 rfl d_E_leave_35 ?_
      refine lv_iload_n hx hb d_E_leave_38 rfl (lv_at hl 3 rfl) ?_
      refine lv_iload_n hx hb d_E_leave_39 rfl (lv_at hl 0 rfl) ?_
      exact no_some hf
  have K18 : ∀ (v1 v2 : Int32) (ls : Array Slot), lv_has ls 4 [(0, .ref (ad 0)), (1, .int v1), (2, .int v2)] → kE_leave_18 v1 v2 M = some out → W p l e (rm1_ 7 110) s m args below meth c s.heap [] 0 0 (TQ below (xcls out) s 1 6) (F0 m 18 ls []) := by
    intro v1 v2 ls  hl hf
    unfold kE_leave_18 at hf
    refine lv_iconst (v := 0) hx hb d_E_leave_18 rfl ?_
    exact K19 v1 v2 0 _  hl hf
  unfold kE_leave at hf
  refine lv_iload_n hx hb d_E_leave_0 rfl (lv_at hl 1 rfl) ?_
  obtain ⟨r4, hr4, hf⟩ := xbd_some hf
  refine xc_rs (rest := []) F hT hK hP (tE_isCandidate l G c3 ad M a1 r4 hr4) wl_E_58 ws_E_isCandidate wn_E wc_E_isCandidate ck_E_isCandidate ⟨rfl, rfl⟩ ⟨by decide, by decide⟩ ⟨Nat.zero_le _, Nat.zero_le _⟩ hl.1 rfl (Nat.le_of_ble_eq_true rfl) d_E_leave_1 ?_
  refine lv_if_eq (tgt := 18) hx hb d_E_leave_4 rfl (fun hc => ?_) (fun hc => ?_)
  · have hf := ite_t hc hf
    exact K18 a1 a2 _  hl hf
  · have hf := ite_f hc hf
    refine lv_iload_n hx hb d_E_leave_7 rfl (lv_at hl 2 rfl) ?_
    obtain ⟨r5, hr5, hf⟩ := xbd_some hf
    refine xc_rs (rest := []) F hT hK hP (tE_isSession l G c3 ad M a2 r5 hr5) wl_E_52 ws_E_isSession wn_E wc_E_isSession ck_E_isSession ⟨rfl, rfl⟩ ⟨by decide, by decide⟩ ⟨Nat.zero_le _, Nat.zero_le _⟩ hl.1 rfl (Nat.le_of_ble_eq_true rfl) d_E_leave_8 ?_
    refine lv_if_eq (tgt := 18) hx hb d_E_leave_11 rfl (fun hc => ?_) (fun hc => ?_)
    · have hf := ite_t hc hf
      exact K18 a1 a2 _  hl hf
    · have hf := ite_f hc hf
      refine lv_iconst (v := 1) hx hb d_E_leave_14 rfl ?_
      refine lv_goto (tgt := 19) hx hb d_E_leave_15 rfl ?_
      exact K19 a1 a2 1 _  hl hf
noncomputable def kE_where_19 (v1 v2 s19_0 : Int32) (M : Mem) : Option Nat := if s19_0 = 0 then some 1 else (xgd (vp_in v2 6) (xgd (vp_in v1 40) (xbd (fE_seatNumber (M (37 + 1 + v2.toNatClampNeg) v1.toNatClampNeg)) (fun r3 => none))))
noncomputable def kE_where_18 (v1 v2 : Int32) (M : Mem) : Option Nat := kE_where_19 v1 v2 0 M
noncomputable def kE_where (a1 a2 : Int32) (M : Mem) : Option Nat := xbd (fE_isCandidate a1) (fun r4 => if r4 = 0 then (kE_where_18 a1 a2 M) else (xbd (fE_isSession a2) (fun r5 => if r5 = 0 then (kE_where_18 a1 a2 M) else (kE_where_19 a1 a2 1 M))))
set_option maxHeartbeats 4000000 in
set_option maxRecDepth 100000 in
theorem uE_where (l : Launch) (hfl : l.flags = flags0) (G : va_G) (c3 : ClassId × ClassId × ClassId) (ad : Nat → Nat) (N : Nat) (M : Mem) (a1 a2 : Int32) (out : Nat) (hf : kE_where a1 a2 M = some out) : TMet l yE_where cE_where 3 (some .int) (rm1_ 7 110) (va_Pc [.ref (ad 0), .int a1, .int a2] (okX N G SX c3 ad M)) (xcls out) 1 6 := by
  refine TMet.of (by decide +kernel) (Nat.le_of_ble_eq_true rfl) (fun p e s m args below meth c ls hx hb hml hown B hr hlk hout hl => ?_)
  obtain ⟨⟨hT, hK, hP⟩, hX⟩ := B
  have hown : s.vm.findClass RE = some m.cls := hown
  have F : CallFix p m c cE_where 3 s args gw RE := ⟨hx, hb, hml, hown, hT.hts args⟩
  have hl : lv_has ls 3 [(0, .ref (ad 0)), (1, .int a1), (2, .int a2)] := hl
  have K19 : ∀ (v1 v2 s19_0 : Int32) (ls : Array Slot), lv_has ls 3 [(0, .ref (ad 0)), (1, .int v1), (2, .int v2)] → kE_where_19 v1 v2 s19_0 M = some out → W p l e (rm1_ 7 110) s m args below meth c s.heap [] 0 0 (TQ below (xcls out) s 1 6) (F0 m 19 ls [.int s19_0]) := by
    intro v1 v2 s19_0 ls  hl hf
    unfold kE_where_19 at hf
    by_cases hc : s19_0 = 0
    · have hf := ite_t hc hf
      cases hf
      exact xt_out (xt_runS (rest := []) F hT (uE_mustExist l hfl G c3 ad N M s19_0 1 (by unfold kE_mustExist; exact if_pos hc)) (okX.pre hT hK hP hX) wl_E_34 ws_E_mustExist wn_E wc_E_mustExist ck_E_mustExist ⟨by decide, by decide⟩ ⟨by decide, by decide⟩ hl.1 rfl (Nat.le_of_ble_eq_true rfl) d_E_where_19) hout hlk
    · have hf := ite_f hc hf
      refine xc_vs (rest := []) F hT hK hP (tE_mustExist l G c3 ad M s19_0 (out := ()) (by unfold fE_mustExist; exact if_neg hc)) wl_E_34 ws_E_mustExist wn_E wc_E_mustExist ck_E_mustExist ⟨rfl, rfl⟩ ⟨by decide, by decide⟩ ⟨Nat.zero_le _, Nat.zero_le _⟩ hl.1 rfl (Nat.le_of_ble_eq_true rfl) d_E_where_19 ?_
      refine lv_aload_n hx hb d_E_where_22 rfl (lv_at hl 0 rfl) ?_
      refine xr_getr hx hb hT hown hK hP sX_0 rfl inE 1 (by decide) wf_E_19 rfl d_E_where_23 ?_
      refine xr_getr hx hb hT hown hK hP sX_18 rfl inR 6 (by decide) wf_E_145 rfl d_E_where_26 ?_
      refine lv_iload_n hx hb d_E_where_29 rfl (lv_at hl 2 rfl) ?_
      obtain ⟨g1, hf⟩ := xgd_some hf
      refine xr_aald hx hb hK hP sX_37 g1 d_E_where_30 ?_
      refine lv_iload_n hx hb d_E_where_31 rfl (lv_at hl 1 rfl) ?_
      obtain ⟨g2, hf⟩ := xgd_some hf
      refine xr_iald hx hb hK hP (sX_r37 g1) g2 d_E_where_32 ?_
      obtain ⟨r3, hr3, hf⟩ := xbd_some hf
      refine xc_rs (rest := []) F hT hK hP (tE_seatNumber l G c3 ad M (M (37 + 1 + v2.toNatClampNeg) v1.toNatClampNeg) r3 hr3) wl_E_153 ws_E_seatNumber wn_E wc_E_seatNumber ck_E_seatNumber ⟨rfl, rfl⟩ ⟨by decide, by decide⟩ ⟨Nat.zero_le _, Nat.zero_le _⟩ hl.1 rfl (Nat.le_of_ble_eq_true rfl) d_E_where_33 ?_
      exact no_some hf
  have K18 : ∀ (v1 v2 : Int32) (ls : Array Slot), lv_has ls 3 [(0, .ref (ad 0)), (1, .int v1), (2, .int v2)] → kE_where_18 v1 v2 M = some out → W p l e (rm1_ 7 110) s m args below meth c s.heap [] 0 0 (TQ below (xcls out) s 1 6) (F0 m 18 ls []) := by
    intro v1 v2 ls  hl hf
    unfold kE_where_18 at hf
    refine lv_iconst (v := 0) hx hb d_E_where_18 rfl ?_
    exact K19 v1 v2 0 _  hl hf
  unfold kE_where at hf
  refine lv_iload_n hx hb d_E_where_0 rfl (lv_at hl 1 rfl) ?_
  obtain ⟨r4, hr4, hf⟩ := xbd_some hf
  refine xc_rs (rest := []) F hT hK hP (tE_isCandidate l G c3 ad M a1 r4 hr4) wl_E_58 ws_E_isCandidate wn_E wc_E_isCandidate ck_E_isCandidate ⟨rfl, rfl⟩ ⟨by decide, by decide⟩ ⟨Nat.zero_le _, Nat.zero_le _⟩ hl.1 rfl (Nat.le_of_ble_eq_true rfl) d_E_where_1 ?_
  refine lv_if_eq (tgt := 18) hx hb d_E_where_4 rfl (fun hc => ?_) (fun hc => ?_)
  · have hf := ite_t hc hf
    exact K18 a1 a2 _  hl hf
  · have hf := ite_f hc hf
    refine lv_iload_n hx hb d_E_where_7 rfl (lv_at hl 2 rfl) ?_
    obtain ⟨r5, hr5, hf⟩ := xbd_some hf
    refine xc_rs (rest := []) F hT hK hP (tE_isSession l G c3 ad M a2 r5 hr5) wl_E_52 ws_E_isSession wn_E wc_E_isSession ck_E_isSession ⟨rfl, rfl⟩ ⟨by decide, by decide⟩ ⟨Nat.zero_le _, Nat.zero_le _⟩ hl.1 rfl (Nat.le_of_ble_eq_true rfl) d_E_where_8 ?_
    refine lv_if_eq (tgt := 18) hx hb d_E_where_11 rfl (fun hc => ?_) (fun hc => ?_)
    · have hf := ite_t hc hf
      exact K18 a1 a2 _  hl hf
    · have hf := ite_f hc hf
      refine lv_iconst (v := 1) hx hb d_E_where_14 rfl ?_
      refine lv_goto (tgt := 19) hx hb d_E_where_15 rfl ?_
      exact K19 a1 a2 1 _  hl hf
noncomputable def kE_who_33 (v1 v2 v3 v4 s33_0 : Int32) (M : Mem) : Option Nat := if s33_0 = 0 then some 1 else (xgd (vp_in v1 6) (xbd (fE_placeAt v2 v3 v4) (fun r2 => xgd (vp_in r2 144) (none))))
noncomputable def kE_who_32 (v1 v2 v3 v4 : Int32) (M : Mem) : Option Nat := kE_who_33 v1 v2 v3 v4 0 M
noncomputable def kE_who (a1 a2 a3 a4 : Int32) (M : Mem) : Option Nat := xbd (fE_isSession a1) (fun r4 => if r4 = 0 then (kE_who_32 a1 a2 a3 a4 M) else (xbd (fE_isRoom a2) (fun r5 => if r5 = 0 then (kE_who_32 a1 a2 a3 a4 M) else (xbd (fR_hasPlace a2 a3 a4 M) (fun r6 => if r6 = 0 then (kE_who_32 a1 a2 a3 a4 M) else (kE_who_33 a1 a2 a3 a4 1 M))))))
set_option maxHeartbeats 4000000 in
set_option maxRecDepth 100000 in
theorem uE_who (l : Launch) (hfl : l.flags = flags0) (G : va_G) (c3 : ClassId × ClassId × ClassId) (ad : Nat → Nat) (N : Nat) (M : Mem) (a1 a2 a3 a4 : Int32) (out : Nat) (hf : kE_who a1 a2 a3 a4 M = some out) : TMet l yE_who cE_who 5 (some .int) (rm1_ 7 110) (va_Pc [.ref (ad 0), .int a1, .int a2, .int a3, .int a4] (okX N G SX c3 ad M)) (xcls out) 1 6 := by
  refine TMet.of (by decide +kernel) (Nat.le_of_ble_eq_true rfl) (fun p e s m args below meth c ls hx hb hml hown B hr hlk hout hl => ?_)
  obtain ⟨⟨hT, hK, hP⟩, hX⟩ := B
  have hown : s.vm.findClass RE = some m.cls := hown
  have F : CallFix p m c cE_who 5 s args gw RE := ⟨hx, hb, hml, hown, hT.hts args⟩
  have hl : lv_has ls 5 [(0, .ref (ad 0)), (1, .int a1), (2, .int a2), (3, .int a3), (4, .int a4)] := hl
  have K33 : ∀ (v1 v2 v3 v4 s33_0 : Int32) (ls : Array Slot), lv_has ls 5 [(0, .ref (ad 0)), (1, .int v1), (2, .int v2), (3, .int v3), (4, .int v4)] → kE_who_33 v1 v2 v3 v4 s33_0 M = some out → W p l e (rm1_ 7 110) s m args below meth c s.heap [] 0 0 (TQ below (xcls out) s 1 6) (F0 m 33 ls [.int s33_0]) := by
    intro v1 v2 v3 v4 s33_0 ls  hl hf
    unfold kE_who_33 at hf
    by_cases hc : s33_0 = 0
    · have hf := ite_t hc hf
      cases hf
      exact xt_out (xt_runS (rest := []) F hT (uE_mustExist l hfl G c3 ad N M s33_0 1 (by unfold kE_mustExist; exact if_pos hc)) (okX.pre hT hK hP hX) wl_E_34 ws_E_mustExist wn_E wc_E_mustExist ck_E_mustExist ⟨by decide, by decide⟩ ⟨by decide, by decide⟩ hl.1 rfl (Nat.le_of_ble_eq_true rfl) d_E_who_33) hout hlk
    · have hf := ite_f hc hf
      refine xc_vs (rest := []) F hT hK hP (tE_mustExist l G c3 ad M s33_0 (out := ()) (by unfold fE_mustExist; exact if_neg hc)) wl_E_34 ws_E_mustExist wn_E wc_E_mustExist ck_E_mustExist ⟨rfl, rfl⟩ ⟨by decide, by decide⟩ ⟨Nat.zero_le _, Nat.zero_le _⟩ hl.1 rfl (Nat.le_of_ble_eq_true rfl) d_E_who_33 ?_
      refine lv_aload_n hx hb d_E_who_36 rfl (lv_at hl 0 rfl) ?_
      refine xr_getr hx hb hT hown hK hP sX_0 rfl inE 1 (by decide) wf_E_19 rfl d_E_who_37 ?_
      refine xr_getr hx hb hT hown hK hP sX_18 rfl inR 4 (by decide) wf_E_157 rfl d_E_who_40 ?_
      refine lv_iload_n hx hb d_E_who_43 rfl (lv_at hl 1 rfl) ?_
      obtain ⟨g1, hf⟩ := xgd_some hf
      refine xr_aald hx hb hK hP sX_23 g1 d_E_who_44 ?_
      refine lv_iload_n hx hb d_E_who_45 rfl (lv_at hl 2 rfl) ?_
      refine lv_iload_n hx hb d_E_who_46 rfl (lv_at hl 3 rfl) ?_
      refine lv_iload hx hb d_E_who_47 (lv_at hl 4 rfl) ?_
      obtain ⟨r2, hr2, hf⟩ := xbd_some hf
      refine xc_rs (rest := [.ref (ad (23 + 1 + v1.toNatClampNeg))]) F hT hK hP (tE_placeAt l G c3 ad M v2 v3 v4 r2 hr2) wl_E_115 ws_E_placeAt wn_E wc_E_placeAt ck_E_placeAt ⟨rfl, rfl⟩ ⟨by decide, by decide⟩ ⟨Nat.zero_le _, Nat.zero_le _⟩ hl.1 rfl (Nat.le_of_ble_eq_true rfl) d_E_who_49 ?_
      obtain ⟨g3, hf⟩ := xgd_some hf
      refine xr_iald hx hb hK hP (sX_r23 g1) g3 d_E_who_52 ?_
      exact no_some hf
  have K32 : ∀ (v1 v2 v3 v4 : Int32) (ls : Array Slot), lv_has ls 5 [(0, .ref (ad 0)), (1, .int v1), (2, .int v2), (3, .int v3), (4, .int v4)] → kE_who_32 v1 v2 v3 v4 M = some out → W p l e (rm1_ 7 110) s m args below meth c s.heap [] 0 0 (TQ below (xcls out) s 1 6) (F0 m 32 ls []) := by
    intro v1 v2 v3 v4 ls  hl hf
    unfold kE_who_32 at hf
    refine lv_iconst (v := 0) hx hb d_E_who_32 rfl ?_
    exact K33 v1 v2 v3 v4 0 _  hl hf
  unfold kE_who at hf
  refine lv_iload_n hx hb d_E_who_0 rfl (lv_at hl 1 rfl) ?_
  obtain ⟨r4, hr4, hf⟩ := xbd_some hf
  refine xc_rs (rest := []) F hT hK hP (tE_isSession l G c3 ad M a1 r4 hr4) wl_E_52 ws_E_isSession wn_E wc_E_isSession ck_E_isSession ⟨rfl, rfl⟩ ⟨by decide, by decide⟩ ⟨Nat.zero_le _, Nat.zero_le _⟩ hl.1 rfl (Nat.le_of_ble_eq_true rfl) d_E_who_1 ?_
  refine lv_if_eq (tgt := 32) hx hb d_E_who_4 rfl (fun hc => ?_) (fun hc => ?_)
  · have hf := ite_t hc hf
    exact K32 a1 a2 a3 a4 _  hl hf
  · have hf := ite_f hc hf
    refine lv_iload_n hx hb d_E_who_7 rfl (lv_at hl 2 rfl) ?_
    obtain ⟨r5, hr5, hf⟩ := xbd_some hf
    refine xc_rs (rest := []) F hT hK hP (tE_isRoom l G c3 ad M a2 r5 hr5) wl_E_103 ws_E_isRoom wn_E wc_E_isRoom ck_E_isRoom ⟨rfl, rfl⟩ ⟨by decide, by decide⟩ ⟨Nat.zero_le _, Nat.zero_le _⟩ hl.1 rfl (Nat.le_of_ble_eq_true rfl) d_E_who_8 ?_
    refine lv_if_eq (tgt := 32) hx hb d_E_who_11 rfl (fun hc => ?_) (fun hc => ?_)
    · have hf := ite_t hc hf
      exact K32 a1 a2 a3 a4 _  hl hf
    · have hf := ite_f hc hf
      refine lv_aload_n hx hb d_E_who_14 rfl (lv_at hl 0 rfl) ?_
      refine xr_getr hx hb hT hown hK hP sX_0 rfl inE 1 (by decide) wf_E_19 rfl d_E_who_15 ?_
      refine lv_iload_n hx hb d_E_who_18 rfl (lv_at hl 2 rfl) ?_
      refine lv_iload_n hx hb d_E_who_19 rfl (lv_at hl 3 rfl) ?_
      refine lv_iload hx hb d_E_who_20 (lv_at hl 4 rfl) ?_
      obtain ⟨r6, hr6, hf⟩ := xbd_some hf
      refine xc_rv (rest := []) F hT hK hP (tR_hasPlace l G c3 ad M a2 a3 a4 r6 hr6) sX_18 rfl wl_E_112 wi_R_hasPlace we_R_hasPlace wn_R wc_R_hasPlace ck_R_hasPlace ⟨rfl, rfl⟩ ⟨by decide, by decide⟩ ⟨Nat.zero_le _, Nat.zero_le _⟩ hl.1 rfl (Nat.le_of_ble_eq_true rfl) d_E_who_22 ?_
      refine lv_if_eq (tgt := 32) hx hb d_E_who_25 rfl (fun hc => ?_) (fun hc => ?_)
      · have hf := ite_t hc hf
        exact K32 a1 a2 a3 a4 _  hl hf
      · have hf := ite_f hc hf
        refine lv_iconst (v := 1) hx hb d_E_who_28 rfl ?_
        refine lv_goto (tgt := 33) hx hb d_E_who_29 rfl ?_
        exact K33 a1 a2 a3 a4 1 _  hl hf
noncomputable def kE_most (a1 a2 : Int32) (M : Mem) : Option Nat := xbd (fE_isInvigilator a1) (fun r1 => if r1 = 0 then some 1 else (xbd (fE_isUpTo a2 6) (fun r2 => if r2 = 0 then some 2 else (xgd (vp_in a1 10) (xlt ((M 45 a1.toNatClampNeg)) (fun x4 => none))))))
set_option maxHeartbeats 4000000 in
set_option maxRecDepth 100000 in
theorem uE_most (l : Launch) (hfl : l.flags = flags0) (G : va_G) (c3 : ClassId × ClassId × ClassId) (ad : Nat → Nat) (N : Nat) (M : Mem) (a1 a2 : Int32) (out : Nat) (hf : kE_most a1 a2 M = some out) : TMet l yE_most cE_most 4 (some .int) (rm1_ 7 110) (va_Pc [.ref (ad 0), .int a1, .int a2] (okX N G SX c3 ad M)) (xcls out) 1 6 := by
  refine TMet.of (by decide +kernel) (Nat.le_of_ble_eq_true rfl) (fun p e s m args below meth c ls hx hb hml hown B hr hlk hout hl => ?_)
  obtain ⟨⟨hT, hK, hP⟩, hX⟩ := B
  have hown : s.vm.findClass RE = some m.cls := hown
  have F : CallFix p m c cE_most 4 s args gw RE := ⟨hx, hb, hml, hown, hT.hts args⟩
  have hl : lv_has ls 4 [(0, .ref (ad 0)), (1, .int a1), (2, .int a2)] := hl
  unfold kE_most at hf
  refine lv_iload_n hx hb d_E_most_0 rfl (lv_at hl 1 rfl) ?_
  obtain ⟨r1, hr1, hf⟩ := xbd_some hf
  refine xc_rs (rest := []) F hT hK hP (tE_isInvigilator l G c3 ad M a1 r1 hr1) wl_E_160 ws_E_isInvigilator wn_E wc_E_isInvigilator ck_E_isInvigilator ⟨rfl, rfl⟩ ⟨by decide, by decide⟩ ⟨Nat.zero_le _, Nat.zero_le _⟩ hl.1 rfl (Nat.le_of_ble_eq_true rfl) d_E_most_1 ?_
  by_cases hc : r1 = 0
  · have hf := ite_t hc hf
    cases hf
    exact xt_out (xt_runS (rest := []) F hT (uE_mustExist l hfl G c3 ad N M r1 1 (by unfold kE_mustExist; exact if_pos hc)) (okX.pre hT hK hP hX) wl_E_34 ws_E_mustExist wn_E wc_E_mustExist ck_E_mustExist ⟨by decide, by decide⟩ ⟨by decide, by decide⟩ hl.1 rfl (Nat.le_of_ble_eq_true rfl) d_E_most_4) hout hlk
  · have hf := ite_f hc hf
    refine xc_vs (rest := []) F hT hK hP (tE_mustExist l G c3 ad M r1 (out := ()) (by unfold fE_mustExist; exact if_neg hc)) wl_E_34 ws_E_mustExist wn_E wc_E_mustExist ck_E_mustExist ⟨rfl, rfl⟩ ⟨by decide, by decide⟩ ⟨Nat.zero_le _, Nat.zero_le _⟩ hl.1 rfl (Nat.le_of_ble_eq_true rfl) d_E_most_4 ?_
    refine lv_iload_n hx hb d_E_most_7 rfl (lv_at hl 2 rfl) ?_
    refine lv_bipush (v := 6) hx hb d_E_most_8 rfl ?_
    obtain ⟨r2, hr2, hf⟩ := xbd_some hf
    refine xc_rs (rest := []) F hT hK hP (tE_isUpTo l G c3 ad M a2 6 r2 hr2) wl_E_38 ws_E_isUpTo wn_E wc_E_isUpTo ck_E_isUpTo ⟨rfl, rfl⟩ ⟨by decide, by decide⟩ ⟨Nat.zero_le _, Nat.zero_le _⟩ hl.1 rfl (Nat.le_of_ble_eq_true rfl) d_E_most_10 ?_
    by_cases hc : r2 = 0
    · have hf := ite_t hc hf
      cases hf
      exact xt_out (xt_runS (rest := []) F hT (uE_mustBeAllowed l hfl G c3 ad N M r2 2 (by unfold kE_mustBeAllowed; exact if_pos hc)) (okX.pre hT hK hP hX) wl_E_42 ws_E_mustBeAllowed wn_E wc_E_mustBeAllowed ck_E_mustBeAllowed ⟨by decide, by decide⟩ ⟨by decide, by decide⟩ hl.1 rfl (Nat.le_of_ble_eq_true rfl) d_E_most_13) hout hlk
    · have hf := ite_f hc hf
      refine xc_vs (rest := []) F hT hK hP (tE_mustBeAllowed l G c3 ad M r2 (out := ()) (by unfold fE_mustBeAllowed; exact if_neg hc)) wl_E_42 ws_E_mustBeAllowed wn_E wc_E_mustBeAllowed ck_E_mustBeAllowed ⟨rfl, rfl⟩ ⟨by decide, by decide⟩ ⟨Nat.zero_le _, Nat.zero_le _⟩ hl.1 rfl (Nat.le_of_ble_eq_true rfl) d_E_most_13 ?_
      refine lv_aload_n hx hb d_E_most_16 rfl (lv_at hl 0 rfl) ?_
      refine xr_getr hx hb hT hown hK hP sX_0 rfl inE 2 (by decide) wf_E_26 rfl d_E_most_17 ?_
      refine xr_getr hx hb hT hown hK hP sX_44 rfl inO 0 (by decide) wf_E_163 rfl d_E_most_20 ?_
      refine lv_iload_n hx hb d_E_most_23 rfl (lv_at hl 1 rfl) ?_
      obtain ⟨g3, hf⟩ := xgd_some hf
      refine xr_iald hx hb hK hP sX_45 g3 d_E_most_24 ?_
      obtain ⟨x4, hx4, hf⟩ := xlt_some hf
      refine xr_name hx4 ?_
      refine lv_istore_n (lv' := [(3, .int x4), (0, .ref (ad 0)), (1, .int a1), (2, .int a2)]) hx hb d_E_most_25 rfl hl (by decide) rfl (fun ls hl => ?_)
      refine lv_aload_n hx hb d_E_most_26 rfl (lv_at hl 1 rfl) ?_
      refine xr_getr hx hb hT hown hK hP sX_0 rfl inE 2 (by decide) wf_E_26 rfl d_E_most_27 ?_
      refine xr_getr hx hb hT hown hK hP sX_44 rfl inO 0 (by decide) wf_E_163 rfl d_E_most_30 ?_
      refine lv_iload_n hx hb d_E_most_33 rfl (lv_at hl 2 rfl) ?_
      refine lv_iload_n hx hb d_E_most_34 rfl (lv_at hl 3 rfl) ?_
      exact no_some hf
noncomputable def kE_own_19 (v1 v2 v3 s19_0 : Int32) (M : Mem) : Option Nat := if s19_0 = 0 then some 1 else (xgd (vp_in v1 10) (xlt ((M 46 v1.toNatClampNeg)) (fun x2 => xbd (fE_with x2 v2 v3) (fun r3 => none))))
noncomputable def kE_own_18 (v1 v2 v3 : Int32) (M : Mem) : Option Nat := kE_own_19 v1 v2 v3 0 M
noncomputable def kE_own (a1 a2 a3 : Int32) (M : Mem) : Option Nat := xbd (fE_isInvigilator a1) (fun r4 => if r4 = 0 then (kE_own_18 a1 a2 a3 M) else (xbd (fE_isPaper a2) (fun r5 => if r5 = 0 then (kE_own_18 a1 a2 a3 M) else (kE_own_19 a1 a2 a3 1 M))))
set_option maxHeartbeats 4000000 in
set_option maxRecDepth 100000 in
theorem uE_own (l : Launch) (hfl : l.flags = flags0) (G : va_G) (c3 : ClassId × ClassId × ClassId) (ad : Nat → Nat) (N : Nat) (M : Mem) (a1 a2 a3 : Int32) (out : Nat) (hf : kE_own a1 a2 a3 M = some out) : TMet l yE_own cE_own 5 (some .boolean) (rm1_ 7 110) (va_Pc [.ref (ad 0), .int a1, .int a2, .int a3] (okX N G SX c3 ad M)) (xcls out) 1 6 := by
  refine TMet.of (by decide +kernel) (Nat.le_of_ble_eq_true rfl) (fun p e s m args below meth c ls hx hb hml hown B hr hlk hout hl => ?_)
  obtain ⟨⟨hT, hK, hP⟩, hX⟩ := B
  have hown : s.vm.findClass RE = some m.cls := hown
  have F : CallFix p m c cE_own 5 s args gw RE := ⟨hx, hb, hml, hown, hT.hts args⟩
  have hl : lv_has ls 5 [(0, .ref (ad 0)), (1, .int a1), (2, .int a2), (3, .int a3)] := hl
  have K19 : ∀ (v1 v2 v3 s19_0 : Int32) (ls : Array Slot), lv_has ls 5 [(0, .ref (ad 0)), (1, .int v1), (2, .int v2), (3, .int v3)] → kE_own_19 v1 v2 v3 s19_0 M = some out → W p l e (rm1_ 7 110) s m args below meth c s.heap [] 0 0 (TQ below (xcls out) s 1 6) (F0 m 19 ls [.int s19_0]) := by
    intro v1 v2 v3 s19_0 ls  hl hf
    unfold kE_own_19 at hf
    by_cases hc : s19_0 = 0
    · have hf := ite_t hc hf
      cases hf
      exact xt_out (xt_runS (rest := []) F hT (uE_mustExist l hfl G c3 ad N M s19_0 1 (by unfold kE_mustExist; exact if_pos hc)) (okX.pre hT hK hP hX) wl_E_34 ws_E_mustExist wn_E wc_E_mustExist ck_E_mustExist ⟨by decide, by decide⟩ ⟨by decide, by decide⟩ hl.1 rfl (Nat.le_of_ble_eq_true rfl) d_E_own_19) hout hlk
    · have hf := ite_f hc hf
      refine xc_vs (rest := []) F hT hK hP (tE_mustExist l G c3 ad M s19_0 (out := ()) (by unfold fE_mustExist; exact if_neg hc)) wl_E_34 ws_E_mustExist wn_E wc_E_mustExist ck_E_mustExist ⟨rfl, rfl⟩ ⟨by decide, by decide⟩ ⟨Nat.zero_le _, Nat.zero_le _⟩ hl.1 rfl (Nat.le_of_ble_eq_true rfl) d_E_own_19 ?_
      refine lv_aload_n hx hb d_E_own_22 rfl (lv_at hl 0 rfl) ?_
      refine xr_getr hx hb hT hown hK hP sX_0 rfl inE 2 (by decide) wf_E_26 rfl d_E_own_23 ?_
      refine xr_getr hx hb hT hown hK hP sX_44 rfl inO 1 (by decide) wf_E_166 rfl d_E_own_26 ?_
      refine lv_iload_n hx hb d_E_own_29 rfl (lv_at hl 1 rfl) ?_
      obtain ⟨g1, hf⟩ := xgd_some hf
      refine xr_iald hx hb hK hP sX_46 g1 d_E_own_30 ?_
      obtain ⟨x2, hx2, hf⟩ := xlt_some hf
      refine xr_name hx2 ?_
      refine lv_istore (lv' := [(4, .int x2), (0, .ref (ad 0)), (1, .int v1), (2, .int v2), (3, .int v3)]) hx hb d_E_own_31 hl (by decide) rfl (fun ls hl => ?_)
      refine lv_aload_n hx hb d_E_own_33 rfl (lv_at hl 1 rfl) ?_
      refine xr_getr hx hb hT hown hK hP sX_0 rfl inE 2 (by decide) wf_E_26 rfl d_E_own_34 ?_
      refine xr_getr hx hb hT hown hK hP sX_44 rfl inO 1 (by decide) wf_E_166 rfl d_E_own_37 ?_
      refine lv_iload_n hx hb d_E_own_40 rfl (lv_at hl 2 rfl) ?_
      refine lv_iload hx hb d_E_own_41 (lv_at hl 0 rfl) ?_
      refine lv_iload_n hx hb d_E_own_43 rfl (lv_at hl 3 rfl) ?_
      refine lv_iload_n hx hb d_E_own_44 rfl (lv_at hl 4 rfl) ?_
      obtain ⟨r3, hr3, hf⟩ := xbd_some hf
      refine xc_rs (rest := [.int v1, .ref (ad 46)]) F hT hK hP (tE_with l G c3 ad M x2 v2 v3 r3 hr3) wl_E_67 ws_E_with wn_E wc_E_with ck_E_with ⟨rfl, rfl⟩ ⟨by decide, by decide⟩ ⟨Nat.zero_le _, Nat.zero_le _⟩ hl.1 rfl (Nat.le_of_ble_eq_true rfl) d_E_own_45 ?_
      exact no_some hf
  have K18 : ∀ (v1 v2 v3 : Int32) (ls : Array Slot), lv_has ls 5 [(0, .ref (ad 0)), (1, .int v1), (2, .int v2), (3, .int v3)] → kE_own_18 v1 v2 v3 M = some out → W p l e (rm1_ 7 110) s m args below meth c s.heap [] 0 0 (TQ below (xcls out) s 1 6) (F0 m 18 ls []) := by
    intro v1 v2 v3 ls  hl hf
    unfold kE_own_18 at hf
    refine lv_iconst (v := 0) hx hb d_E_own_18 rfl ?_
    exact K19 v1 v2 v3 0 _  hl hf
  unfold kE_own at hf
  refine lv_iload_n hx hb d_E_own_0 rfl (lv_at hl 1 rfl) ?_
  obtain ⟨r4, hr4, hf⟩ := xbd_some hf
  refine xc_rs (rest := []) F hT hK hP (tE_isInvigilator l G c3 ad M a1 r4 hr4) wl_E_160 ws_E_isInvigilator wn_E wc_E_isInvigilator ck_E_isInvigilator ⟨rfl, rfl⟩ ⟨by decide, by decide⟩ ⟨Nat.zero_le _, Nat.zero_le _⟩ hl.1 rfl (Nat.le_of_ble_eq_true rfl) d_E_own_1 ?_
  refine lv_if_eq (tgt := 18) hx hb d_E_own_4 rfl (fun hc => ?_) (fun hc => ?_)
  · have hf := ite_t hc hf
    exact K18 a1 a2 a3 _  hl hf
  · have hf := ite_f hc hf
    refine lv_iload_n hx hb d_E_own_7 rfl (lv_at hl 2 rfl) ?_
    obtain ⟨r5, hr5, hf⟩ := xbd_some hf
    refine xc_rs (rest := []) F hT hK hP (tE_isPaper l G c3 ad M a2 r5 hr5) wl_E_30 ws_E_isPaper wn_E wc_E_isPaper ck_E_isPaper ⟨rfl, rfl⟩ ⟨by decide, by decide⟩ ⟨Nat.zero_le _, Nat.zero_le _⟩ hl.1 rfl (Nat.le_of_ble_eq_true rfl) d_E_own_8 ?_
    refine lv_if_eq (tgt := 18) hx hb d_E_own_11 rfl (fun hc => ?_) (fun hc => ?_)
    · have hf := ite_t hc hf
      exact K18 a1 a2 a3 _  hl hf
    · have hf := ite_f hc hf
      refine lv_iconst (v := 1) hx hb d_E_own_14 rfl ?_
      refine lv_goto (tgt := 19) hx hb d_E_own_15 rfl ?_
      exact K19 a1 a2 a3 1 _  hl hf
noncomputable def kE_watch (a1 : Int32) (M : Mem) : Option Nat := xbd (fE_isSession a1) (fun r1 => if r1 = 0 then some 1 else (none))
set_option maxHeartbeats 4000000 in
set_option maxRecDepth 100000 in
theorem uE_watch (l : Launch) (hfl : l.flags = flags0) (G : va_G) (c3 : ClassId × ClassId × ClassId) (ad : Nat → Nat) (N : Nat) (M : Mem) (a1 : Int32) (out : Nat) (hf : kE_watch a1 M = some out) : TMet l yE_watch cE_watch 2 (some .boolean) (rm1_ 7 110) (va_Pc [.ref (ad 0), .int a1] (okX N G SX c3 ad M)) (xcls out) 1 6 := by
  refine TMet.of (by decide +kernel) (Nat.le_of_ble_eq_true rfl) (fun p e s m args below meth c ls hx hb hml hown B hr hlk hout hl => ?_)
  obtain ⟨⟨hT, hK, hP⟩, hX⟩ := B
  have hown : s.vm.findClass RE = some m.cls := hown
  have F : CallFix p m c cE_watch 2 s args gw RE := ⟨hx, hb, hml, hown, hT.hts args⟩
  have hl : lv_has ls 2 [(0, .ref (ad 0)), (1, .int a1)] := hl
  unfold kE_watch at hf
  refine lv_iload_n hx hb d_E_watch_0 rfl (lv_at hl 1 rfl) ?_
  obtain ⟨r1, hr1, hf⟩ := xbd_some hf
  refine xc_rs (rest := []) F hT hK hP (tE_isSession l G c3 ad M a1 r1 hr1) wl_E_52 ws_E_isSession wn_E wc_E_isSession ck_E_isSession ⟨rfl, rfl⟩ ⟨by decide, by decide⟩ ⟨Nat.zero_le _, Nat.zero_le _⟩ hl.1 rfl (Nat.le_of_ble_eq_true rfl) d_E_watch_1 ?_
  by_cases hc : r1 = 0
  · have hf := ite_t hc hf
    cases hf
    exact xt_out (xt_runS (rest := []) F hT (uE_mustExist l hfl G c3 ad N M r1 1 (by unfold kE_mustExist; exact if_pos hc)) (okX.pre hT hK hP hX) wl_E_34 ws_E_mustExist wn_E wc_E_mustExist ck_E_mustExist ⟨by decide, by decide⟩ ⟨by decide, by decide⟩ hl.1 rfl (Nat.le_of_ble_eq_true rfl) d_E_watch_4) hout hlk
  · have hf := ite_f hc hf
    refine xc_vs (rest := []) F hT hK hP (tE_mustExist l G c3 ad M r1 (out := ()) (by unfold fE_mustExist; exact if_neg hc)) wl_E_34 ws_E_mustExist wn_E wc_E_mustExist ck_E_mustExist ⟨rfl, rfl⟩ ⟨by decide, by decide⟩ ⟨Nat.zero_le _, Nat.zero_le _⟩ hl.1 rfl (Nat.le_of_ble_eq_true rfl) d_E_watch_4 ?_
    refine lv_aload_n hx hb d_E_watch_7 rfl (lv_at hl 0 rfl) ?_
    refine xr_getr hx hb hT hown hK hP sX_0 rfl inE 2 (by decide) wf_E_26 rfl d_E_watch_8 ?_
    refine lv_iload_n hx hb d_E_watch_11 rfl (lv_at hl 1 rfl) ?_
    refine lv_aload_n hx hb d_E_watch_12 rfl (lv_at hl 0 rfl) ?_
    refine xr_getr hx hb hT hown hK hP sX_0 rfl inE 1 (by decide) wf_E_19 rfl d_E_watch_13 ?_
    exact no_some hf
noncomputable def kE_watcher_23 (v1 v2 v3 s23_0 : Int32) (M : Mem) : Option Nat := if s23_0 = 0 then some 1 else (xbd (fO_watcherAt v1 v2 v3 M) (fun r1 => none))
noncomputable def kE_watcher_22 (v1 v2 v3 : Int32) (M : Mem) : Option Nat := kE_watcher_23 v1 v2 v3 0 M
noncomputable def kE_watcher (a1 a2 a3 : Int32) (M : Mem) : Option Nat := xbd (fE_isSession a1) (fun r2 => if r2 = 0 then (kE_watcher_22 a1 a2 a3 M) else (xbd (fE_isRoom a2) (fun r3 => if r3 = 0 then (kE_watcher_22 a1 a2 a3 M) else (if a3 < 0 then (kE_watcher_22 a1 a2 a3 M) else (kE_watcher_23 a1 a2 a3 1 M)))))
set_option maxHeartbeats 4000000 in
set_option maxRecDepth 100000 in
theorem uE_watcher (l : Launch) (hfl : l.flags = flags0) (G : va_G) (c3 : ClassId × ClassId × ClassId) (ad : Nat → Nat) (N : Nat) (M : Mem) (a1 a2 a3 : Int32) (out : Nat) (hf : kE_watcher a1 a2 a3 M = some out) : TMet l yE_watcher cE_watcher 4 (some .int) (rm1_ 7 110) (va_Pc [.ref (ad 0), .int a1, .int a2, .int a3] (okX N G SX c3 ad M)) (xcls out) 1 6 := by
  refine TMet.of (by decide +kernel) (Nat.le_of_ble_eq_true rfl) (fun p e s m args below meth c ls hx hb hml hown B hr hlk hout hl => ?_)
  obtain ⟨⟨hT, hK, hP⟩, hX⟩ := B
  have hown : s.vm.findClass RE = some m.cls := hown
  have F : CallFix p m c cE_watcher 4 s args gw RE := ⟨hx, hb, hml, hown, hT.hts args⟩
  have hl : lv_has ls 4 [(0, .ref (ad 0)), (1, .int a1), (2, .int a2), (3, .int a3)] := hl
  have K23 : ∀ (v1 v2 v3 s23_0 : Int32) (ls : Array Slot), lv_has ls 4 [(0, .ref (ad 0)), (1, .int v1), (2, .int v2), (3, .int v3)] → kE_watcher_23 v1 v2 v3 s23_0 M = some out → W p l e (rm1_ 7 110) s m args below meth c s.heap [] 0 0 (TQ below (xcls out) s 1 6) (F0 m 23 ls [.int s23_0]) := by
    intro v1 v2 v3 s23_0 ls  hl hf
    unfold kE_watcher_23 at hf
    by_cases hc : s23_0 = 0
    · have hf := ite_t hc hf
      cases hf
      exact xt_out (xt_runS (rest := []) F hT (uE_mustExist l hfl G c3 ad N M s23_0 1 (by unfold kE_mustExist; exact if_pos hc)) (okX.pre hT hK hP hX) wl_E_34 ws_E_mustExist wn_E wc_E_mustExist ck_E_mustExist ⟨by decide, by decide⟩ ⟨by decide, by decide⟩ hl.1 rfl (Nat.le_of_ble_eq_true rfl) d_E_watcher_23) hout hlk
    · have hf := ite_f hc hf
      refine xc_vs (rest := []) F hT hK hP (tE_mustExist l G c3 ad M s23_0 (out := ()) (by unfold fE_mustExist; exact if_neg hc)) wl_E_34 ws_E_mustExist wn_E wc_E_mustExist ck_E_mustExist ⟨rfl, rfl⟩ ⟨by decide, by decide⟩ ⟨Nat.zero_le _, Nat.zero_le _⟩ hl.1 rfl (Nat.le_of_ble_eq_true rfl) d_E_watcher_23 ?_
      refine lv_aload_n hx hb d_E_watcher_26 rfl (lv_at hl 0 rfl) ?_
      refine xr_getr hx hb hT hown hK hP sX_0 rfl inE 2 (by decide) wf_E_26 rfl d_E_watcher_27 ?_
      refine lv_iload_n hx hb d_E_watcher_30 rfl (lv_at hl 1 rfl) ?_
      refine lv_iload_n hx hb d_E_watcher_31 rfl (lv_at hl 2 rfl) ?_
      refine lv_iload_n hx hb d_E_watcher_32 rfl (lv_at hl 3 rfl) ?_
      obtain ⟨r1, hr1, hf⟩ := xbd_some hf
      refine xc_rv (rest := []) F hT hK hP (tO_watcherAt l G c3 ad M v1 v2 v3 r1 hr1) sX_44 rfl wl_E_173 wi_O_watcherAt we_O_watcherAt wn_O wc_O_watcherAt ck_O_watcherAt ⟨rfl, rfl⟩ ⟨by decide, by decide⟩ ⟨Nat.zero_le _, Nat.zero_le _⟩ hl.1 rfl (Nat.le_of_ble_eq_true rfl) d_E_watcher_33 ?_
      exact no_some hf
  have K22 : ∀ (v1 v2 v3 : Int32) (ls : Array Slot), lv_has ls 4 [(0, .ref (ad 0)), (1, .int v1), (2, .int v2), (3, .int v3)] → kE_watcher_22 v1 v2 v3 M = some out → W p l e (rm1_ 7 110) s m args below meth c s.heap [] 0 0 (TQ below (xcls out) s 1 6) (F0 m 22 ls []) := by
    intro v1 v2 v3 ls  hl hf
    unfold kE_watcher_22 at hf
    refine lv_iconst (v := 0) hx hb d_E_watcher_22 rfl ?_
    exact K23 v1 v2 v3 0 _  hl hf
  unfold kE_watcher at hf
  refine lv_iload_n hx hb d_E_watcher_0 rfl (lv_at hl 1 rfl) ?_
  obtain ⟨r2, hr2, hf⟩ := xbd_some hf
  refine xc_rs (rest := []) F hT hK hP (tE_isSession l G c3 ad M a1 r2 hr2) wl_E_52 ws_E_isSession wn_E wc_E_isSession ck_E_isSession ⟨rfl, rfl⟩ ⟨by decide, by decide⟩ ⟨Nat.zero_le _, Nat.zero_le _⟩ hl.1 rfl (Nat.le_of_ble_eq_true rfl) d_E_watcher_1 ?_
  refine lv_if_eq (tgt := 22) hx hb d_E_watcher_4 rfl (fun hc => ?_) (fun hc => ?_)
  · have hf := ite_t hc hf
    exact K22 a1 a2 a3 _  hl hf
  · have hf := ite_f hc hf
    refine lv_iload_n hx hb d_E_watcher_7 rfl (lv_at hl 2 rfl) ?_
    obtain ⟨r3, hr3, hf⟩ := xbd_some hf
    refine xc_rs (rest := []) F hT hK hP (tE_isRoom l G c3 ad M a2 r3 hr3) wl_E_103 ws_E_isRoom wn_E wc_E_isRoom ck_E_isRoom ⟨rfl, rfl⟩ ⟨by decide, by decide⟩ ⟨Nat.zero_le _, Nat.zero_le _⟩ hl.1 rfl (Nat.le_of_ble_eq_true rfl) d_E_watcher_8 ?_
    refine lv_if_eq (tgt := 22) hx hb d_E_watcher_11 rfl (fun hc => ?_) (fun hc => ?_)
    · have hf := ite_t hc hf
      exact K22 a1 a2 a3 _  hl hf
    · have hf := ite_f hc hf
      refine lv_iload_n hx hb d_E_watcher_14 rfl (lv_at hl 3 rfl) ?_
      refine lv_if_lt (tgt := 22) hx hb d_E_watcher_15 rfl (fun hc => ?_) (fun hc => ?_)
      · have hf := ite_t hc hf
        exact K22 a1 a2 a3 _  hl hf
      · have hf := ite_f hc hf
        refine lv_iconst (v := 1) hx hb d_E_watcher_18 rfl ?_
        refine lv_goto (tgt := 23) hx hb d_E_watcher_19 rfl ?_
        exact K23 a1 a2 a3 1 _  hl hf
noncomputable def kE_count (a1 : Int32) (M : Mem) : Option Nat := if a1 = 0 then (xbd (fT_heldPapers  M) (fun r1 => xbd (fJI_bitCount r1) (fun r2 => none))) else (if a1 = 1 then (xbd (fT_enrolments  M) (fun r3 => none)) else (if a1 = 2 then (none) else (if a1 = 3 then (xbd (fR_seatsTaken  M) (fun r4 => none)) else (if a1 = 4 then (xbd (fO_watches  M) (fun r5 => none)) else (some 2)))))
set_option maxHeartbeats 4000000 in
set_option maxRecDepth 100000 in
theorem uE_count (l : Launch) (hfl : l.flags = flags0) (G : va_G) (c3 : ClassId × ClassId × ClassId) (ad : Nat → Nat) (N : Nat) (M : Mem) (a1 : Int32) (out : Nat) (hf : kE_count a1 M = some out) : TMet l yE_count cE_count 2 (some .int) (rm1_ 6 90) (va_Pc [.ref (ad 0), .int a1] (okX N G SX c3 ad M)) (xcls out) 1 6 := by
  refine TMet.of (by decide +kernel) (Nat.le_of_ble_eq_true rfl) (fun p e s m args below meth c ls hx hb hml hown B hr hlk hout hl => ?_)
  obtain ⟨⟨hT, hK, hP⟩, hX⟩ := B
  have hown : s.vm.findClass RE = some m.cls := hown
  have F : CallFix p m c cE_count 2 s args gw RE := ⟨hx, hb, hml, hown, hT.hts args⟩
  have hl : lv_has ls 2 [(0, .ref (ad 0)), (1, .int a1)] := hl
  unfold kE_count at hf
  refine lv_iload_n hx hb d_E_count_0 rfl (lv_at hl 1 rfl) ?_
  by_cases hq0 : a1 = 0
  · have hf := ite_t hq0 hf
    rw [hq0]
    refine lv_tableIn (tgt := 36) hx hb d_E_count_1 (by decide) (by decide) rfl rfl ?_
    refine lv_aload_n hx hb d_E_count_36 rfl (lv_at hl 0 rfl) ?_
    refine xr_getr hx hb hT hown hK hP sX_0 rfl inE 0 (by decide) wf_E_12 rfl d_E_count_37 ?_
    obtain ⟨r1, hr1, hf⟩ := xbd_some hf
    refine xc_rv (rest := []) F hT hK hP (tT_heldPapers l G c3 ad M  r1 hr1) sX_1 rfl wl_E_176 wi_T_heldPapers we_T_heldPapers wn_T wc_T_heldPapers ck_T_heldPapers ⟨rfl, rfl⟩ ⟨by decide, by decide⟩ ⟨Nat.zero_le _, Nat.zero_le _⟩ hl.1 rfl (Nat.le_of_ble_eq_true rfl) d_E_count_40 ?_
    obtain ⟨r2, hr2, hf⟩ := xbd_some hf
    refine xc_rs (rest := []) F hT hK hP (tJI_bitCount l G c3 ad M r1 r2 hr2) wl_E_179 ws_JI_bitCount wn_JI wc_JI_bitCount ck_JI_bitCount ⟨rfl, rfl⟩ ⟨by decide, by decide⟩ ⟨Nat.zero_le _, Nat.zero_le _⟩ hl.1 rfl (Nat.le_of_ble_eq_true rfl) d_E_count_43 ?_
    exact no_some hf
  have hf := ite_f hq0 hf
  by_cases hq1 : a1 = 1
  · have hf := ite_t hq1 hf
    rw [hq1]
    refine lv_tableIn (tgt := 47) hx hb d_E_count_1 (by decide) (by decide) rfl rfl ?_
    refine lv_aload_n hx hb d_E_count_47 rfl (lv_at hl 0 rfl) ?_
    refine xr_getr hx hb hT hown hK hP sX_0 rfl inE 0 (by decide) wf_E_12 rfl d_E_count_48 ?_
    obtain ⟨r3, hr3, hf⟩ := xbd_some hf
    refine xc_rv (rest := []) F hT hK hP (tT_enrolments l G c3 ad M  r3 hr3) sX_1 rfl wl_E_184 wi_T_enrolments we_T_enrolments wn_T wc_T_enrolments ck_T_enrolments ⟨rfl, rfl⟩ ⟨by decide, by decide⟩ ⟨Nat.zero_le _, Nat.zero_le _⟩ hl.1 rfl (Nat.le_of_ble_eq_true rfl) d_E_count_51 ?_
    exact no_some hf
  have hf := ite_f hq1 hf
  by_cases hq2 : a1 = 2
  · have hf := ite_t hq2 hf
    rw [hq2]
    refine lv_tableIn (tgt := 55) hx hb d_E_count_1 (by decide) (by decide) rfl rfl ?_
    refine lv_aload_n hx hb d_E_count_55 rfl (lv_at hl 0 rfl) ?_
    refine xr_getr hx hb hT hown hK hP sX_0 rfl inE 0 (by decide) wf_E_12 rfl d_E_count_56 ?_
    refine xr_geti hx hb hT hown hK hP sX_1 rfl inT 8 (by decide) wf_E_187 rfl d_E_count_59 ?_
    exact no_some hf
  have hf := ite_f hq2 hf
  by_cases hq3 : a1 = 3
  · have hf := ite_t hq3 hf
    rw [hq3]
    refine lv_tableIn (tgt := 63) hx hb d_E_count_1 (by decide) (by decide) rfl rfl ?_
    refine lv_aload_n hx hb d_E_count_63 rfl (lv_at hl 0 rfl) ?_
    refine xr_getr hx hb hT hown hK hP sX_0 rfl inE 1 (by decide) wf_E_19 rfl d_E_count_64 ?_
    obtain ⟨r4, hr4, hf⟩ := xbd_some hf
    refine xc_rv (rest := []) F hT hK hP (tR_seatsTaken l G c3 ad M  r4 hr4) sX_18 rfl wl_E_191 wi_R_seatsTaken we_R_seatsTaken wn_R wc_R_seatsTaken ck_R_seatsTaken ⟨rfl, rfl⟩ ⟨by decide, by decide⟩ ⟨Nat.zero_le _, Nat.zero_le _⟩ hl.1 rfl (Nat.le_of_ble_eq_true rfl) d_E_count_67 ?_
    exact no_some hf
  have hf := ite_f hq3 hf
  by_cases hq4 : a1 = 4
  · have hf := ite_t hq4 hf
    rw [hq4]
    refine lv_tableIn (tgt := 71) hx hb d_E_count_1 (by decide) (by decide) rfl rfl ?_
    refine lv_aload_n hx hb d_E_count_71 rfl (lv_at hl 0 rfl) ?_
    refine xr_getr hx hb hT hown hK hP sX_0 rfl inE 2 (by decide) wf_E_26 rfl d_E_count_72 ?_
    obtain ⟨r5, hr5, hf⟩ := xbd_some hf
    refine xc_rv (rest := []) F hT hK hP (tO_watches l G c3 ad M  r5 hr5) sX_44 rfl wl_E_194 wi_O_watches we_O_watches wn_O wc_O_watches ck_O_watches ⟨rfl, rfl⟩ ⟨by decide, by decide⟩ ⟨Nat.zero_le _, Nat.zero_le _⟩ hl.1 rfl (Nat.le_of_ble_eq_true rfl) d_E_count_75 ?_
    exact no_some hf
  have hf := ite_f hq4 hf
  refine lv_tableOut (tgt := 79) hx hb d_E_count_1 (tb_out 5 hq0 hq1 hq2 hq3 hq4) rfl ?_
  cases hf
  exact xt_throw hx hb hfl hT hX hown (cls := "java/lang/IllegalArgumentException") (by decide +kernel) wq_E_197 wb_JG wn_JG (List.mem_of_getElem? (i := 4) rfl) xw_G wc_JG_init (ch_G hT hX) d_E_count_79 d_E_count_82 d_E_count_83 d_E_count_85 d_E_count_88 hout hlk (hl.1.trans hml.symm) ⟨by decide, by decide, by decide, by decide⟩
