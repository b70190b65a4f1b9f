/-! ===== the law's helpers ===== -/
def zl (r : Int32) : Int64 := if r = 0 then 0 else 1
set_option maxHeartbeats 4000000 in
set_option maxRecDepth 100000 in
theorem hL_paper (l : Launch) (N : Nat) (G : va_G) (c3 : ClassId × ClassId × ClassId) (cL : ClassId) (ad : Nat → Nat) (hd : adI SX ad) (ao : Nat) (ha : ¬ adA SX ad ao) (M : Mem) (o : Nat → Int64) (a1 a2 : Int32) (r : Int32) (M' : Mem) (hf : fE_paper a1 a2 M = some (r, M')) : LMet l yL_paper cL_paper 5 [((0), (10), (13), (13)), ((0), (10), (17), (15))] (rm1_ 8 133) N G c3 cL ad ao M o [.ref (ad 0), .int a1, .int a2, .ref ao] 0 M' (vp_updL o 0 r.toInt64) := by
  refine LMet.of (by decide +kernel) (Nat.le_of_ble_eq_true rfl) (fun p e s m args below meth c ls F hT hK hP hO hX hr hlk htab hl => ?_)
  have hx := F.1
  have hb := F.2.1
  have F : CallFix p m c cL_paper 5 s args gw RL := F
  have hown := F.2.2.2.1
  have hl : lv_has ls 5 [(0, .ref (ad 0)), (1, .int a1), (2, .int a2), (3, .ref ao)] := hl
  have hK3 := ty4_3 hK
  have hS : va_S (aL ad ao) s.heap s.heap [] := va_S.rf
  refine lv_aload_n hx hb d_L_paper_0 rfl (lv_at hl 3 rfl) ?_
  refine lv_iconst (v := 0) hx hb d_L_paper_1 rfl ?_
  refine lv_aload_n hx hb d_L_paper_2 rfl (lv_at hl 0 rfl) ?_
  refine lv_iload_n hx hb d_L_paper_3 rfl (lv_at hl 1 rfl) ?_
  refine lv_iload_n hx hb d_L_paper_4 rfl (lv_at hl 2 rfl) ?_
  refine xc_wv (rest := [.int 0, .ref ao]) F hT hK3 hP hS (fun _ h => Or.inl h) (tE_paper l G c3 ad hd M a1 a2 r M' hf) sX_0 rfl wl_L_7 wi_E_paper we_E_paper wn_E wc_E_paper ck_E_paper ⟨rfl, rfl⟩ ⟨by decide, by decide⟩ ⟨Nat.zero_le _, Nat.zero_le _⟩ hl.1 rfl (Nat.le_of_ble_eq_true rfl) d_L_paper_5 (fun H locs hP hS hkp => ?_)
  have hO := xo_one hO (hkp ao (xo_lt hO) ha)
  refine lv_i2l hx hb d_L_paper_8 rfl ?_
  refine xo_last hx hb hd ha (fun _ h => h) hK hP hO hS d_L_paper_9 (fun H locs hP hO hS => ?_)
  refine lv_goto (tgt := 21) hx hb d_L_paper_10 rfl ?_
  refine lv_iconst (v := 0) hx hb d_L_paper_21 rfl ?_
  exact xo_ret hx hb hr hlk hP hO hS ⟨Nat.zero_le _, Nat.zero_le _⟩ d_L_paper_22
set_option maxHeartbeats 4000000 in
set_option maxRecDepth 100000 in
theorem hL_paper_x1 (l : Launch) (hfl : l.flags = flags0) (N : Nat) (G : va_G) (c3 : ClassId × ClassId × ClassId) (cL : ClassId) (ad : Nat → Nat) (hd : adI SX ad) (ao : Nat) (ha : ¬ adA SX ad ao) (M : Mem) (o : Nat → Int64) (a1 a2 : Int32) (hf : kE_paper a1 a2 M = some 1) : LMet l yL_paper cL_paper 5 [((0), (10), (13), (13)), ((0), (10), (17), (15))] (rm1_ 8 133) N G c3 cL ad ao M o [.ref (ad 0), .int a1, .int a2, .ref ao] 1 M o := by
  refine LMet.of (by decide +kernel) (Nat.le_of_ble_eq_true rfl) (fun p e s m args below meth c ls F hT hK hP hO hX hr hlk htab hl => ?_)
  have hx := F.1
  have hb := F.2.1
  have F : CallFix p m c cL_paper 5 s args gw RL := F
  have hown := F.2.2.2.1
  have hl : lv_has ls 5 [(0, .ref (ad 0)), (1, .int a1), (2, .int a2), (3, .ref ao)] := hl
  have hK3 := ty4_3 hK
  have hS : va_S (aL ad ao) s.heap s.heap [] := va_S.rf
  refine lv_aload_n hx hb d_L_paper_0 rfl (lv_at hl 3 rfl) ?_
  refine lv_iconst (v := 0) hx hb d_L_paper_1 rfl ?_
  refine lv_aload_n hx hb d_L_paper_2 rfl (lv_at hl 0 rfl) ?_
  refine lv_iload_n hx hb d_L_paper_3 rfl (lv_at hl 1 rfl) ?_
  refine lv_iload_n hx hb d_L_paper_4 rfl (lv_at hl 2 rfl) ?_
  have hrun := xt_runV (ls := ls) (H := s.heap) (locs := []) (cells := 0) (slots := 0) (rest := [.int 0, .ref ao]) (st0 := [.int a2, .int a1, .ref (ad 0), .int 0, .ref ao]) (below := below) (meth := meth) (e := e) (R := rm1_ 8 133) F hT (uE_paper l hfl G c3 ad N M a1 a2 1 hf) ⟨okX.blind, va_recv hK3 hP rfl (wd_at sX_0), okX.at (As := [.ref (ad 0), .int a1, .int a2]) hT hK3 hP hX (fun _ _ => rfl)⟩ wl_L_7 wi_E_paper we_E_paper wn_E wc_E_paper ck_E_paper ⟨by decide, by decide⟩ ⟨by decide, by decide⟩ hl.1 (As := [.int a1, .int a2]) rfl (Nat.le_of_ble_eq_true rfl) d_L_paper_5
  refine xt_catch1 (C1 := "java/util/NoSuchElementException") hown hrun htab (by decide) (by decide) (hT.1 _ wq_L_13 _) (va_Nw.use rfl (hT.2.2 _ (List.mem_of_getElem? (i := 0) rfl))) (fun x H1 hk1 hk2 => ?_)
  refine lv_astore (lv' := [(4, .ref x), (0, .ref (ad 0)), (1, .int a1), (2, .int a2), (3, .ref ao)]) hx hb d_L_paper_13 hl (by decide) rfl (fun ls hl => ?_)
  refine lv_iconst (v := 1) hx hb d_L_paper_15 rfl ?_
  have hP1 := xo_wd hP hk1
  have hO1 := xo_one hO (hk1 ao (xo_lt hO))
  have hS1 : va_S (aL ad ao) s.heap H1 [] := ⟨hk2, fun q hq _ => hk1 q hq, fun _ h => by cases h⟩
  exact xo_ret hx hb hr hlk hP1 hO1 hS1 ⟨by decide, by decide⟩ d_L_paper_16
set_option maxHeartbeats 4000000 in
set_option maxRecDepth 100000 in
theorem hL_paper_x2 (l : Launch) (hfl : l.flags = flags0) (N : Nat) (G : va_G) (c3 : ClassId × ClassId × ClassId) (cL : ClassId) (ad : Nat → Nat) (hd : adI SX ad) (ao : Nat) (ha : ¬ adA SX ad ao) (M : Mem) (o : Nat → Int64) (a1 a2 : Int32) (hf : kE_paper a1 a2 M = some 2) : LMet l yL_paper cL_paper 5 [((0), (10), (13), (13)), ((0), (10), (17), (15))] (rm1_ 8 133) N G c3 cL ad ao M o [.ref (ad 0), .int a1, .int a2, .ref ao] 2 M o := by
  refine LMet.of (by decide +kernel) (Nat.le_of_ble_eq_true rfl) (fun p e s m args below meth c ls F hT hK hP hO hX hr hlk htab hl => ?_)
  have hx := F.1
  have hb := F.2.1
  have F : CallFix p m c cL_paper 5 s args gw RL := F
  have hown := F.2.2.2.1
  have hl : lv_has ls 5 [(0, .ref (ad 0)), (1, .int a1), (2, .int a2), (3, .ref ao)] := hl
  have hK3 := ty4_3 hK
  have hS : va_S (aL ad ao) s.heap s.heap [] := va_S.rf
  refine lv_aload_n hx hb d_L_paper_0 rfl (lv_at hl 3 rfl) ?_
  refine lv_iconst (v := 0) hx hb d_L_paper_1 rfl ?_
  refine lv_aload_n hx hb d_L_paper_2 rfl (lv_at hl 0 rfl) ?_
  refine lv_iload_n hx hb d_L_paper_3 rfl (lv_at hl 1 rfl) ?_
  refine lv_iload_n hx hb d_L_paper_4 rfl (lv_at hl 2 rfl) ?_
  have hrun := xt_runV (ls := ls) (H := s.heap) (locs := []) (cells := 0) (slots := 0) (rest := [.int 0, .ref ao]) (st0 := [.int a2, .int a1, .ref (ad 0), .int 0, .ref ao]) (below := below) (meth := meth) (e := e) (R := rm1_ 8 133) F hT (uE_paper l hfl G c3 ad N M a1 a2 2 hf) ⟨okX.blind, va_recv hK3 hP rfl (wd_at sX_0), okX.at (As := [.ref (ad 0), .int a1, .int a2]) hT hK3 hP hX (fun _ _ => rfl)⟩ wl_L_7 wi_E_paper we_E_paper wn_E wc_E_paper ck_E_paper ⟨by decide, by decide⟩ ⟨by decide, by decide⟩ hl.1 (As := [.int a1, .int a2]) rfl (Nat.le_of_ble_eq_true rfl) d_L_paper_5
  refine xt_catch2 (C1 := "java/util/NoSuchElementException") (C2 := "java/lang/IllegalArgumentException") hown hrun htab (by decide) (by decide) (hT.1 _ wq_L_13 _) hX.2.2.2.2.1 (by decide) (by decide) (hT.1 _ wq_L_15 _) (va_Nw.use rfl (hT.2.2 _ (List.mem_of_getElem? (i := 1) rfl))) (fun x H1 hk1 hk2 => ?_)
  refine lv_astore (lv' := [(4, .ref x), (0, .ref (ad 0)), (1, .int a1), (2, .int a2), (3, .ref ao)]) hx hb d_L_paper_17 hl (by decide) rfl (fun ls hl => ?_)
  refine lv_iconst (v := 2) hx hb d_L_paper_19 rfl ?_
  have hP1 := xo_wd hP hk1
  have hO1 := xo_one hO (hk1 ao (xo_lt hO))
  have hS1 : va_S (aL ad ao) s.heap H1 [] := ⟨hk2, fun q hq _ => hk1 q hq, fun _ h => by cases h⟩
  exact xo_ret hx hb hr hlk hP1 hO1 hS1 ⟨by decide, by decide⟩ d_L_paper_20
set_option maxHeartbeats 4000000 in
set_option maxRecDepth 100000 in
theorem hL_session (l : Launch) (N : Nat) (G : va_G) (c3 : ClassId × ClassId × ClassId) (cL : ClassId) (ad : Nat → Nat) (hd : adI SX ad) (ao : Nat) (ha : ¬ adA SX ad ao) (M : Mem) (o : Nat → Int64) (a1 a2 : Int32) (r : Int32) (M' : Mem) (hf : fE_session a1 a2 M = some (r, M')) : LMet l yL_session cL_session 5 [((0), (10), (13), (13)), ((0), (10), (17), (15))] (rm1_ 8 133) N G c3 cL ad ao M o [.ref (ad 0), .int a1, .int a2, .ref ao] 0 M' (vp_updL o 0 r.toInt64) := by
  refine LMet.of (by decide +kernel) (Nat.le_of_ble_eq_true rfl) (fun p e s m args below meth c ls F hT hK hP hO hX hr hlk htab hl => ?_)
  have hx := F.1
  have hb := F.2.1
  have F : CallFix p m c cL_session 5 s args gw RL := F
  have hown := F.2.2.2.1
  have hl : lv_has ls 5 [(0, .ref (ad 0)), (1, .int a1), (2, .int a2), (3, .ref ao)] := hl
  have hK3 := ty4_3 hK
  have hS : va_S (aL ad ao) s.heap s.heap [] := va_S.rf
  refine lv_aload_n hx hb d_L_session_0 rfl (lv_at hl 3 rfl) ?_
  refine lv_iconst (v := 0) hx hb d_L_session_1 rfl ?_
  refine lv_aload_n hx hb d_L_session_2 rfl (lv_at hl 0 rfl) ?_
  refine lv_iload_n hx hb d_L_session_3 rfl (lv_at hl 1 rfl) ?_
  refine lv_iload_n hx hb d_L_session_4 rfl (lv_at hl 2 rfl) ?_
  refine xc_wv (rest := [.int 0, .ref ao]) F hT hK3 hP hS (fun _ h => Or.inl h) (tE_session l G c3 ad hd M a1 a2 r M' hf) sX_0 rfl wl_L_17 wi_E_session we_E_session wn_E wc_E_session ck_E_session ⟨rfl, rfl⟩ ⟨by decide, by decide⟩ ⟨Nat.zero_le _, Nat.zero_le _⟩ hl.1 rfl (Nat.le_of_ble_eq_true rfl) d_L_session_5 (fun H locs hP hS hkp => ?_)
  have hO := xo_one hO (hkp ao (xo_lt hO) ha)
  refine lv_i2l hx hb d_L_session_8 rfl ?_
  refine xo_last hx hb hd ha (fun _ h => h) hK hP hO hS d_L_session_9 (fun H locs hP hO hS => ?_)
  refine lv_goto (tgt := 21) hx hb d_L_session_10 rfl ?_
  refine lv_iconst (v := 0) hx hb d_L_session_21 rfl ?_
  exact xo_ret hx hb hr hlk hP hO hS ⟨Nat.zero_le _, Nat.zero_le _⟩ d_L_session_22
set_option maxHeartbeats 4000000 in
set_option maxRecDepth 100000 in
theorem hL_session_x1 (l : Launch) (hfl : l.flags = flags0) (N : Nat) (G : va_G) (c3 : ClassId × ClassId × ClassId) (cL : ClassId) (ad : Nat → Nat) (hd : adI SX ad) (ao : Nat) (ha : ¬ adA SX ad ao) (M : Mem) (o : Nat → Int64) (a1 a2 : Int32) (hf : kE_session a1 a2 M = some 1) : LMet l yL_session cL_session 5 [((0), (10), (13), (13)), ((0), (10), (17), (15))] (rm1_ 8 133) N G c3 cL ad ao M o [.ref (ad 0), .int a1, .int a2, .ref ao] 1 M o := by
  refine LMet.of (by decide +kernel) (Nat.le_of_ble_eq_true rfl) (fun p e s m args below meth c ls F hT hK hP hO hX hr hlk htab hl => ?_)
  have hx := F.1
  have hb := F.2.1
  have F : CallFix p m c cL_session 5 s args gw RL := F
  have hown := F.2.2.2.1
  have hl : lv_has ls 5 [(0, .ref (ad 0)), (1, .int a1), (2, .int a2), (3, .ref ao)] := hl
  have hK3 := ty4_3 hK
  have hS : va_S (aL ad ao) s.heap s.heap [] := va_S.rf
  refine lv_aload_n hx hb d_L_session_0 rfl (lv_at hl 3 rfl) ?_
  refine lv_iconst (v := 0) hx hb d_L_session_1 rfl ?_
  refine lv_aload_n hx hb d_L_session_2 rfl (lv_at hl 0 rfl) ?_
  refine lv_iload_n hx hb d_L_session_3 rfl (lv_at hl 1 rfl) ?_
  refine lv_iload_n hx hb d_L_session_4 rfl (lv_at hl 2 rfl) ?_
  have hrun := xt_runV (ls := ls) (H := s.heap) (locs := []) (cells := 0) (slots := 0) (rest := [.int 0, .ref ao]) (st0 := [.int a2, .int a1, .ref (ad 0), .int 0, .ref ao]) (below := below) (meth := meth) (e := e) (R := rm1_ 8 133) F hT (uE_session l hfl G c3 ad N M a1 a2 1 hf) ⟨okX.blind, va_recv hK3 hP rfl (wd_at sX_0), okX.at (As := [.ref (ad 0), .int a1, .int a2]) hT hK3 hP hX (fun _ _ => rfl)⟩ wl_L_17 wi_E_session we_E_session wn_E wc_E_session ck_E_session ⟨by decide, by decide⟩ ⟨by decide, by decide⟩ hl.1 (As := [.int a1, .int a2]) rfl (Nat.le_of_ble_eq_true rfl) d_L_session_5
  refine xt_catch1 (C1 := "java/util/NoSuchElementException") hown hrun htab (by decide) (by decide) (hT.1 _ wq_L_13 _) (va_Nw.use rfl (hT.2.2 _ (List.mem_of_getElem? (i := 0) rfl))) (fun x H1 hk1 hk2 => ?_)
  refine lv_astore (lv' := [(4, .ref x), (0, .ref (ad 0)), (1, .int a1), (2, .int a2), (3, .ref ao)]) hx hb d_L_session_13 hl (by decide) rfl (fun ls hl => ?_)
  refine lv_iconst (v := 1) hx hb d_L_session_15 rfl ?_
  have hP1 := xo_wd hP hk1
  have hO1 := xo_one hO (hk1 ao (xo_lt hO))
  have hS1 : va_S (aL ad ao) s.heap H1 [] := ⟨hk2, fun q hq _ => hk1 q hq, fun _ h => by cases h⟩
  exact xo_ret hx hb hr hlk hP1 hO1 hS1 ⟨by decide, by decide⟩ d_L_session_16
set_option maxHeartbeats 4000000 in
set_option maxRecDepth 100000 in
theorem hL_session_x2 (l : Launch) (hfl : l.flags = flags0) (N : Nat) (G : va_G) (c3 : ClassId × ClassId × ClassId) (cL : ClassId) (ad : Nat → Nat) (hd : adI SX ad) (ao : Nat) (ha : ¬ adA SX ad ao) (M : Mem) (o : Nat → Int64) (a1 a2 : Int32) (hf : kE_session a1 a2 M = some 2) : LMet l yL_session cL_session 5 [((0), (10), (13), (13)), ((0), (10), (17), (15))] (rm1_ 8 133) N G c3 cL ad ao M o [.ref (ad 0), .int a1, .int a2, .ref ao] 2 M o := by
  refine LMet.of (by decide +kernel) (Nat.le_of_ble_eq_true rfl) (fun p e s m args below meth c ls F hT hK hP hO hX hr hlk htab hl => ?_)
  have hx := F.1
  have hb := F.2.1
  have F : CallFix p m c cL_session 5 s args gw RL := F
  have hown := F.2.2.2.1
  have hl : lv_has ls 5 [(0, .ref (ad 0)), (1, .int a1), (2, .int a2), (3, .ref ao)] := hl
  have hK3 := ty4_3 hK
  have hS : va_S (aL ad ao) s.heap s.heap [] := va_S.rf
  refine lv_aload_n hx hb d_L_session_0 rfl (lv_at hl 3 rfl) ?_
  refine lv_iconst (v := 0) hx hb d_L_session_1 rfl ?_
  refine lv_aload_n hx hb d_L_session_2 rfl (lv_at hl 0 rfl) ?_
  refine lv_iload_n hx hb d_L_session_3 rfl (lv_at hl 1 rfl) ?_
  refine lv_iload_n hx hb d_L_session_4 rfl (lv_at hl 2 rfl) ?_
  have hrun := xt_runV (ls := ls) (H := s.heap) (locs := []) (cells := 0) (slots := 0) (rest := [.int 0, .ref ao]) (st0 := [.int a2, .int a1, .ref (ad 0), .int 0, .ref ao]) (below := below) (meth := meth) (e := e) (R := rm1_ 8 133) F hT (uE_session l hfl G c3 ad N M a1 a2 2 hf) ⟨okX.blind, va_recv hK3 hP rfl (wd_at sX_0), okX.at (As := [.ref (ad 0), .int a1, .int a2]) hT hK3 hP hX (fun _ _ => rfl)⟩ wl_L_17 wi_E_session we_E_session wn_E wc_E_session ck_E_session ⟨by decide, by decide⟩ ⟨by decide, by decide⟩ hl.1 (As := [.int a1, .int a2]) rfl (Nat.le_of_ble_eq_true rfl) d_L_session_5
  refine xt_catch2 (C1 := "java/util/NoSuchElementException") (C2 := "java/lang/IllegalArgumentException") hown hrun htab (by decide) (by decide) (hT.1 _ wq_L_13 _) hX.2.2.2.2.1 (by decide) (by decide) (hT.1 _ wq_L_15 _) (va_Nw.use rfl (hT.2.2 _ (List.mem_of_getElem? (i := 1) rfl))) (fun x H1 hk1 hk2 => ?_)
  refine lv_astore (lv' := [(4, .ref x), (0, .ref (ad 0)), (1, .int a1), (2, .int a2), (3, .ref ao)]) hx hb d_L_session_17 hl (by decide) rfl (fun ls hl => ?_)
  refine lv_iconst (v := 2) hx hb d_L_session_19 rfl ?_
  have hP1 := xo_wd hP hk1
  have hO1 := xo_one hO (hk1 ao (xo_lt hO))
  have hS1 : va_S (aL ad ao) s.heap H1 [] := ⟨hk2, fun q hq _ => hk1 q hq, fun _ h => by cases h⟩
  exact xo_ret hx hb hr hlk hP1 hO1 hS1 ⟨by decide, by decide⟩ d_L_session_20
set_option maxHeartbeats 4000000 in
set_option maxRecDepth 100000 in
theorem hL_enrol (l : Launch) (N : Nat) (G : va_G) (c3 : ClassId × ClassId × ClassId) (cL : ClassId) (ad : Nat → Nat) (hd : adI SX ad) (ao : Nat) (ha : ¬ adA SX ad ao) (M : Mem) (o : Nat → Int64) (a1 a2 a3 : Int32) (r : Int32) (M' : Mem) (hf : fE_enrol a1 a2 a3 M = some (r, M')) : LMet l yL_enrol cL_enrol 6 [((0), (19), (22), (13))] (rm1_ 8 134) N G c3 cL ad ao M o [.ref (ad 0), .int a1, .int a2, .int a3, .ref ao] 0 M' (vp_updL o 0 (zl r)) := by
  refine LMet.of (by decide +kernel) (Nat.le_of_ble_eq_true rfl) (fun p e s m args below meth c ls F hT hK hP hO hX hr hlk htab hl => ?_)
  have hx := F.1
  have hb := F.2.1
  have F : CallFix p m c cL_enrol 6 s args gw RL := F
  have hown := F.2.2.2.1
  have hl : lv_has ls 6 [(0, .ref (ad 0)), (1, .int a1), (2, .int a2), (3, .int a3), (4, .ref ao)] := hl
  have hK3 := ty4_3 hK
  have hS : va_S (aL ad ao) s.heap s.heap [] := va_S.rf
  refine lv_aload hx hb d_L_enrol_0 (lv_at hl 4 rfl) ?_
  refine lv_iconst (v := 0) hx hb d_L_enrol_2 rfl ?_
  refine lv_aload_n hx hb d_L_enrol_3 rfl (lv_at hl 0 rfl) ?_
  refine lv_iload_n hx hb d_L_enrol_4 rfl (lv_at hl 1 rfl) ?_
  refine lv_iload_n hx hb d_L_enrol_5 rfl (lv_at hl 2 rfl) ?_
  refine lv_iload_n hx hb d_L_enrol_6 rfl (lv_at hl 3 rfl) ?_
  refine xc_wv (rest := [.int 0, .ref ao]) F hT hK3 hP hS (fun _ h => Or.inl h) (tE_enrol l G c3 ad hd M a1 a2 a3 r M' hf) sX_0 rfl wl_L_20 wi_E_enrol we_E_enrol wn_E wc_E_enrol ck_E_enrol ⟨rfl, rfl⟩ ⟨by decide, by decide⟩ ⟨Nat.zero_le _, Nat.zero_le _⟩ hl.1 rfl (Nat.le_of_ble_eq_true rfl) d_L_enrol_7 (fun H locs hP hS hkp => ?_)
  have hO := xo_one hO (hkp ao (xo_lt hO) ha)
  refine lv_if_eq (tgt := 17) hx hb d_L_enrol_10 rfl (fun hc => ?_) (fun hc => ?_)
  · have hz : zl r = 0 := if_pos hc
    rw [hz]
    refine lv_lconst (v := 0) hx hb d_L_enrol_17 rfl ?_
    refine xo_last hx hb hd ha (fun _ h => h) hK hP hO hS d_L_enrol_18 (fun H locs hP hO hS => ?_)
    refine lv_goto (tgt := 26) hx hb d_L_enrol_19 rfl ?_
    refine lv_iconst (v := 0) hx hb d_L_enrol_26 rfl ?_
    exact xo_ret hx hb hr hlk hP hO hS ⟨Nat.zero_le _, Nat.zero_le _⟩ d_L_enrol_27
  · have hz : zl r = 1 := if_neg hc
    rw [hz]
    refine lv_lconst (v := 1) hx hb d_L_enrol_13 rfl ?_
    refine lv_goto (tgt := 18) hx hb d_L_enrol_14 rfl ?_
    refine xo_last hx hb hd ha (fun _ h => h) hK hP hO hS d_L_enrol_18 (fun H locs hP hO hS => ?_)
    refine lv_goto (tgt := 26) hx hb d_L_enrol_19 rfl ?_
    refine lv_iconst (v := 0) hx hb d_L_enrol_26 rfl ?_
    exact xo_ret hx hb hr hlk hP hO hS ⟨Nat.zero_le _, Nat.zero_le _⟩ d_L_enrol_27
set_option maxHeartbeats 4000000 in
set_option maxRecDepth 100000 in
theorem hL_enrol_x1 (l : Launch) (hfl : l.flags = flags0) (N : Nat) (G : va_G) (c3 : ClassId × ClassId × ClassId) (cL : ClassId) (ad : Nat → Nat) (hd : adI SX ad) (ao : Nat) (ha : ¬ adA SX ad ao) (M : Mem) (o : Nat → Int64) (a1 a2 a3 : Int32) (hf : kE_enrol a1 a2 a3 M = some 1) : LMet l yL_enrol cL_enrol 6 [((0), (19), (22), (13))] (rm1_ 8 134) N G c3 cL ad ao M o [.ref (ad 0), .int a1, .int a2, .int a3, .ref ao] 1 M o := by
  refine LMet.of (by decide +kernel) (Nat.le_of_ble_eq_true rfl) (fun p e s m args below meth c ls F hT hK hP hO hX hr hlk htab hl => ?_)
  have hx := F.1
  have hb := F.2.1
  have F : CallFix p m c cL_enrol 6 s args gw RL := F
  have hown := F.2.2.2.1
  have hl : lv_has ls 6 [(0, .ref (ad 0)), (1, .int a1), (2, .int a2), (3, .int a3), (4, .ref ao)] := hl
  have hK3 := ty4_3 hK
  have hS : va_S (aL ad ao) s.heap s.heap [] := va_S.rf
  refine lv_aload hx hb d_L_enrol_0 (lv_at hl 4 rfl) ?_
  refine lv_iconst (v := 0) hx hb d_L_enrol_2 rfl ?_
  refine lv_aload_n hx hb d_L_enrol_3 rfl (lv_at hl 0 rfl) ?_
  refine lv_iload_n hx hb d_L_enrol_4 rfl (lv_at hl 1 rfl) ?_
  refine lv_iload_n hx hb d_L_enrol_5 rfl (lv_at hl 2 rfl) ?_
  refine lv_iload_n hx hb d_L_enrol_6 rfl (lv_at hl 3 rfl) ?_
  have hrun := xt_runV (ls := ls) (H := s.heap) (locs := []) (cells := 0) (slots := 0) (rest := [.int 0, .ref ao]) (st0 := [.int a3, .int a2, .int a1, .ref (ad 0), .int 0, .ref ao]) (below := below) (meth := meth) (e := e) (R := rm1_ 8 134) F hT (uE_enrol l hfl G c3 ad N M a1 a2 a3 1 hf) ⟨okX.blind, va_recv hK3 hP rfl (wd_at sX_0), okX.at (As := [.ref (ad 0), .int a1, .int a2, .int a3]) hT hK3 hP hX (fun _ _ => rfl)⟩ wl_L_20 wi_E_enrol we_E_enrol wn_E wc_E_enrol ck_E_enrol ⟨by decide, by decide⟩ ⟨by decide, by decide⟩ hl.1 (As := [.int a1, .int a2, .int a3]) rfl (Nat.le_of_ble_eq_true rfl) d_L_enrol_7
  refine xt_catch1 (C1 := "java/util/NoSuchElementException") hown hrun htab (by decide) (by decide) (hT.1 _ wq_L_13 _) (va_Nw.use rfl (hT.2.2 _ (List.mem_of_getElem? (i := 0) rfl))) (fun x H1 hk1 hk2 => ?_)
  refine lv_astore (lv' := [(5, .ref x), (0, .ref (ad 0)), (1, .int a1), (2, .int a2), (3, .int a3), (4, .ref ao)]) hx hb d_L_enrol_22 hl (by decide) rfl (fun ls hl => ?_)
  refine lv_iconst (v := 1) hx hb d_L_enrol_24 rfl ?_
  have hP1 := xo_wd hP hk1
  have hO1 := xo_one hO (hk1 ao (xo_lt hO))
  have hS1 : va_S (aL ad ao) s.heap H1 [] := ⟨hk2, fun q hq _ => hk1 q hq, fun _ h => by cases h⟩
  exact xo_ret hx hb hr hlk hP1 hO1 hS1 ⟨by decide, by decide⟩ d_L_enrol_25
set_option maxHeartbeats 4000000 in
set_option maxRecDepth 100000 in
theorem hL_extra (l : Launch) (N : Nat) (G : va_G) (c3 : ClassId × ClassId × ClassId) (cL : ClassId) (ad : Nat → Nat) (hd : adI SX ad) (ao : Nat) (ha : ¬ adA SX ad ao) (M : Mem) (o : Nat → Int64) (a1 a2 : Int32) (r : Int32) (M' : Mem) (hf : fE_extra a1 a2 M = some (r, M')) : LMet l yL_extra cL_extra 5 [((0), (17), (20), (13))] (rm1_ 8 133) N G c3 cL ad ao M o [.ref (ad 0), .int a1, .int a2, .ref ao] 0 M' (vp_updL o 0 (zl r)) := by
  refine LMet.of (by decide +kernel) (Nat.le_of_ble_eq_true rfl) (fun p e s m args below meth c ls F hT hK hP hO hX hr hlk htab hl => ?_)
  have hx := F.1
  have hb := F.2.1
  have F : CallFix p m c cL_extra 5 s args gw RL := F
  have hown := F.2.2.2.1
  have hl : lv_has ls 5 [(0, .ref (ad 0)), (1, .int a1), (2, .int a2), (3, .ref ao)] := hl
  have hK3 := ty4_3 hK
  have hS : va_S (aL ad ao) s.heap s.heap [] := va_S.rf
  refine lv_aload_n hx hb d_L_extra_0 rfl (lv_at hl 3 rfl) ?_
  refine lv_iconst (v := 0) hx hb d_L_extra_1 rfl ?_
  refine lv_aload_n hx hb d_L_extra_2 rfl (lv_at hl 0 rfl) ?_
  refine lv_iload_n hx hb d_L_extra_3 rfl (lv_at hl 1 rfl) ?_
  refine lv_iload_n hx hb d_L_extra_4 rfl (lv_at hl 2 rfl) ?_
  refine xc_wv (rest := [.int 0, .ref ao]) F hT hK3 hP hS (fun _ h => Or.inl h) (tE_extra l G c3 ad hd M a1 a2 r M' hf) sX_0 rfl wl_L_24 wi_E_extra we_E_extra wn_E wc_E_extra ck_E_extra ⟨rfl, rfl⟩ ⟨by decide, by decide⟩ ⟨Nat.zero_le _, Nat.zero_le _⟩ hl.1 rfl (Nat.le_of_ble_eq_true rfl) d_L_extra_5 (fun H locs hP hS hkp => ?_)
  have hO := xo_one hO (hkp ao (xo_lt hO) ha)
  refine lv_if_eq (tgt := 15) hx hb d_L_extra_8 rfl (fun hc => ?_) (fun hc => ?_)
  · have hz : zl r = 0 := if_pos hc
    rw [hz]
    refine lv_lconst (v := 0) hx hb d_L_extra_15 rfl ?_
    refine xo_last hx hb hd ha (fun _ h => h) hK hP hO hS d_L_extra_16 (fun H locs hP hO hS => ?_)
    refine lv_goto (tgt := 24) hx hb d_L_extra_17 rfl ?_
    refine lv_iconst (v := 0) hx hb d_L_extra_24 rfl ?_
    exact xo_ret hx hb hr hlk hP hO hS ⟨Nat.zero_le _, Nat.zero_le _⟩ d_L_extra_25
  · have hz : zl r = 1 := if_neg hc
    rw [hz]
    refine lv_lconst (v := 1) hx hb d_L_extra_11 rfl ?_
    refine lv_goto (tgt := 16) hx hb d_L_extra_12 rfl ?_
    refine xo_last hx hb hd ha (fun _ h => h) hK hP hO hS d_L_extra_16 (fun H locs hP hO hS => ?_)
    refine lv_goto (tgt := 24) hx hb d_L_extra_17 rfl ?_
    refine lv_iconst (v := 0) hx hb d_L_extra_24 rfl ?_
    exact xo_ret hx hb hr hlk hP hO hS ⟨Nat.zero_le _, Nat.zero_le _⟩ d_L_extra_25
set_option maxHeartbeats 4000000 in
set_option maxRecDepth 100000 in
theorem hL_extra_x1 (l : Launch) (hfl : l.flags = flags0) (N : Nat) (G : va_G) (c3 : ClassId × ClassId × ClassId) (cL : ClassId) (ad : Nat → Nat) (hd : adI SX ad) (ao : Nat) (ha : ¬ adA SX ad ao) (M : Mem) (o : Nat → Int64) (a1 a2 : Int32) (hf : kE_extra a1 a2 M = some 1) : LMet l yL_extra cL_extra 5 [((0), (17), (20), (13))] (rm1_ 8 133) N G c3 cL ad ao M o [.ref (ad 0), .int a1, .int a2, .ref ao] 1 M o := by
  refine LMet.of (by decide +kernel) (Nat.le_of_ble_eq_true rfl) (fun p e s m args below meth c ls F hT hK hP hO hX hr hlk htab hl => ?_)
  have hx := F.1
  have hb := F.2.1
  have F : CallFix p m c cL_extra 5 s args gw RL := F
  have hown := F.2.2.2.1
  have hl : lv_has ls 5 [(0, .ref (ad 0)), (1, .int a1), (2, .int a2), (3, .ref ao)] := hl
  have hK3 := ty4_3 hK
  have hS : va_S (aL ad ao) s.heap s.heap [] := va_S.rf
  refine lv_aload_n hx hb d_L_extra_0 rfl (lv_at hl 3 rfl) ?_
  refine lv_iconst (v := 0) hx hb d_L_extra_1 rfl ?_
  refine lv_aload_n hx hb d_L_extra_2 rfl (lv_at hl 0 rfl) ?_
  refine lv_iload_n hx hb d_L_extra_3 rfl (lv_at hl 1 rfl) ?_
  refine lv_iload_n hx hb d_L_extra_4 rfl (lv_at hl 2 rfl) ?_
  have hrun := xt_runV (ls := ls) (H := s.heap) (locs := []) (cells := 0) (slots := 0) (rest := [.int 0, .ref ao]) (st0 := [.int a2, .int a1, .ref (ad 0), .int 0, .ref ao]) (below := below) (meth := meth) (e := e) (R := rm1_ 8 133) F hT (uE_extra l hfl G c3 ad N M a1 a2 1 hf) ⟨okX.blind, va_recv hK3 hP rfl (wd_at sX_0), okX.at (As := [.ref (ad 0), .int a1, .int a2]) hT hK3 hP hX (fun _ _ => rfl)⟩ wl_L_24 wi_E_extra we_E_extra wn_E wc_E_extra ck_E_extra ⟨by decide, by decide⟩ ⟨by decide, by decide⟩ hl.1 (As := [.int a1, .int a2]) rfl (Nat.le_of_ble_eq_true rfl) d_L_extra_5
  refine xt_catch1 (C1 := "java/util/NoSuchElementException") hown hrun htab (by decide) (by decide) (hT.1 _ wq_L_13 _) (va_Nw.use rfl (hT.2.2 _ (List.mem_of_getElem? (i := 0) rfl))) (fun x H1 hk1 hk2 => ?_)
  refine lv_astore (lv' := [(4, .ref x), (0, .ref (ad 0)), (1, .int a1), (2, .int a2), (3, .ref ao)]) hx hb d_L_extra_20 hl (by decide) rfl (fun ls hl => ?_)
  refine lv_iconst (v := 1) hx hb d_L_extra_22 rfl ?_
  have hP1 := xo_wd hP hk1
  have hO1 := xo_one hO (hk1 ao (xo_lt hO))
  have hS1 : va_S (aL ad ao) s.heap H1 [] := ⟨hk2, fun q hq _ => hk1 q hq, fun _ h => by cases h⟩
  exact xo_ret hx hb hr hlk hP1 hO1 hS1 ⟨by decide, by decide⟩ d_L_extra_23
set_option maxHeartbeats 4000000 in
set_option maxRecDepth 100000 in
theorem hL_rule (l : Launch) (N : Nat) (G : va_G) (c3 : ClassId × ClassId × ClassId) (cL : ClassId) (ad : Nat → Nat) (hd : adI SX ad) (ao : Nat) (ha : ¬ adA SX ad ao) (M : Mem) (o : Nat → Int64) (a1 a2 a3 a4 : Int32) (r : Int32) (M' : Mem) (hf : fE_rule a1 a2 a3 a4 M = some (r, M')) : LMet l yL_rule cL_rule 7 [((0), (21), (24), (13)), ((0), (21), (28), (15))] (rm1_ 8 134) N G c3 cL ad ao M o [.ref (ad 0), .int a1, .int a2, .int a3, .int a4, .ref ao] 0 M' (vp_updL o 0 (zl r)) := by
  refine LMet.of (by decide +kernel) (Nat.le_of_ble_eq_true rfl) (fun p e s m args below meth c ls F hT hK hP hO hX hr hlk htab hl => ?_)
  have hx := F.1
  have hb := F.2.1
  have F : CallFix p m c cL_rule 7 s args gw RL := F
  have hown := F.2.2.2.1
  have hl : lv_has ls 7 [(0, .ref (ad 0)), (1, .int a1), (2, .int a2), (3, .int a3), (4, .int a4), (5, .ref ao)] := hl
  have hK3 := ty4_3 hK
  have hS : va_S (aL ad ao) s.heap s.heap [] := va_S.rf
  refine lv_aload hx hb d_L_rule_0 (lv_at hl 5 rfl) ?_
  refine lv_iconst (v := 0) hx hb d_L_rule_2 rfl ?_
  refine lv_aload_n hx hb d_L_rule_3 rfl (lv_at hl 0 rfl) ?_
  refine lv_iload_n hx hb d_L_rule_4 rfl (lv_at hl 1 rfl) ?_
  refine lv_iload_n hx hb d_L_rule_5 rfl (lv_at hl 2 rfl) ?_
  refine lv_iload_n hx hb d_L_rule_6 rfl (lv_at hl 3 rfl) ?_
  refine lv_iload hx hb d_L_rule_7 (lv_at hl 4 rfl) ?_
  refine xc_wv (rest := [.int 0, .ref ao]) F hT hK3 hP hS (fun _ h => Or.inl h) (tE_rule l G c3 ad hd M a1 a2 a3 a4 r M' hf) sX_0 rfl wl_L_28 wi_E_rule we_E_rule wn_E wc_E_rule ck_E_rule ⟨rfl, rfl⟩ ⟨by decide, by decide⟩ ⟨Nat.zero_le _, Nat.zero_le _⟩ hl.1 rfl (Nat.le_of_ble_eq_true rfl) d_L_rule_9 (fun H locs hP hS hkp => ?_)
  have hO := xo_one hO (hkp ao (xo_lt hO) ha)
  refine lv_if_eq (tgt := 19) hx hb d_L_rule_12 rfl (fun hc => ?_) (fun hc => ?_)
  · have hz : zl r = 0 := if_pos hc
    rw [hz]
    refine lv_lconst (v := 0) hx hb d_L_rule_19 rfl ?_
    refine xo_last hx hb hd ha (fun _ h => h) hK hP hO hS d_L_rule_20 (fun H locs hP hO hS => ?_)
    refine lv_goto (tgt := 32) hx hb d_L_rule_21 rfl ?_
    refine lv_iconst (v := 0) hx hb d_L_rule_32 rfl ?_
    exact xo_ret hx hb hr hlk hP hO hS ⟨Nat.zero_le _, Nat.zero_le _⟩ d_L_rule_33
  · have hz : zl r = 1 := if_neg hc
    rw [hz]
    refine lv_lconst (v := 1) hx hb d_L_rule_15 rfl ?_
    refine lv_goto (tgt := 20) hx hb d_L_rule_16 rfl ?_
    refine xo_last hx hb hd ha (fun _ h => h) hK hP hO hS d_L_rule_20 (fun H locs hP hO hS => ?_)
    refine lv_goto (tgt := 32) hx hb d_L_rule_21 rfl ?_
    refine lv_iconst (v := 0) hx hb d_L_rule_32 rfl ?_
    exact xo_ret hx hb hr hlk hP hO hS ⟨Nat.zero_le _, Nat.zero_le _⟩ d_L_rule_33
set_option maxHeartbeats 4000000 in
set_option maxRecDepth 100000 in
theorem hL_rule_x1 (l : Launch) (hfl : l.flags = flags0) (N : Nat) (G : va_G) (c3 : ClassId × ClassId × ClassId) (cL : ClassId) (ad : Nat → Nat) (hd : adI SX ad) (ao : Nat) (ha : ¬ adA SX ad ao) (M : Mem) (o : Nat → Int64) (a1 a2 a3 a4 : Int32) (hf : kE_rule a1 a2 a3 a4 M = some 1) : LMet l yL_rule cL_rule 7 [((0), (21), (24), (13)), ((0), (21), (28), (15))] (rm1_ 8 134) N G c3 cL ad ao M o [.ref (ad 0), .int a1, .int a2, .int a3, .int a4, .ref ao] 1 M o := by
  refine LMet.of (by decide +kernel) (Nat.le_of_ble_eq_true rfl) (fun p e s m args below meth c ls F hT hK hP hO hX hr hlk htab hl => ?_)
  have hx := F.1
  have hb := F.2.1
  have F : CallFix p m c cL_rule 7 s args gw RL := F
  have hown := F.2.2.2.1
  have hl : lv_has ls 7 [(0, .ref (ad 0)), (1, .int a1), (2, .int a2), (3, .int a3), (4, .int a4), (5, .ref ao)] := hl
  have hK3 := ty4_3 hK
  have hS : va_S (aL ad ao) s.heap s.heap [] := va_S.rf
  refine lv_aload hx hb d_L_rule_0 (lv_at hl 5 rfl) ?_
  refine lv_iconst (v := 0) hx hb d_L_rule_2 rfl ?_
  refine lv_aload_n hx hb d_L_rule_3 rfl (lv_at hl 0 rfl) ?_
  refine lv_iload_n hx hb d_L_rule_4 rfl (lv_at hl 1 rfl) ?_
  refine lv_iload_n hx hb d_L_rule_5 rfl (lv_at hl 2 rfl) ?_
  refine lv_iload_n hx hb d_L_rule_6 rfl (lv_at hl 3 rfl) ?_
  refine lv_iload hx hb d_L_rule_7 (lv_at hl 4 rfl) ?_
  have hrun := xt_runV (ls := ls) (H := s.heap) (locs := []) (cells := 0) (slots := 0) (rest := [.int 0, .ref ao]) (st0 := [.int a4, .int a3, .int a2, .int a1, .ref (ad 0), .int 0, .ref ao]) (below := below) (meth := meth) (e := e) (R := rm1_ 8 134) F hT (uE_rule l hfl G c3 ad N M a1 a2 a3 a4 1 hf) ⟨okX.blind, va_recv hK3 hP rfl (wd_at sX_0), okX.at (As := [.ref (ad 0), .int a1, .int a2, .int a3, .int a4]) hT hK3 hP hX (fun _ _ => rfl)⟩ wl_L_28 wi_E_rule we_E_rule wn_E wc_E_rule ck_E_rule ⟨by decide, by decide⟩ ⟨by decide, by decide⟩ hl.1 (As := [.int a1, .int a2, .int a3, .int a4]) rfl (Nat.le_of_ble_eq_true rfl) d_L_rule_9
  refine xt_catch1 (C1 := "java/util/NoSuchElementException") hown hrun htab (by decide) (by decide) (hT.1 _ wq_L_13 _) (va_Nw.use rfl (hT.2.2 _ (List.mem_of_getElem? (i := 0) rfl))) (fun x H1 hk1 hk2 => ?_)
  refine lv_astore (lv' := [(6, .ref x), (0, .ref (ad 0)), (1, .int a1), (2, .int a2), (3, .int a3), (4, .int a4), (5, .ref ao)]) hx hb d_L_rule_24 hl (by decide) rfl (fun ls hl => ?_)
  refine lv_iconst (v := 1) hx hb d_L_rule_26 rfl ?_
  have hP1 := xo_wd hP hk1
  have hO1 := xo_one hO (hk1 ao (xo_lt hO))
  have hS1 : va_S (aL ad ao) s.heap H1 [] := ⟨hk2, fun q hq _ => hk1 q hq, fun _ h => by cases h⟩
  exact xo_ret hx hb hr hlk hP1 hO1 hS1 ⟨by decide, by decide⟩ d_L_rule_27
set_option maxHeartbeats 4000000 in
set_option maxRecDepth 100000 in
theorem hL_rule_x2 (l : Launch) (hfl : l.flags = flags0) (N : Nat) (G : va_G) (c3 : ClassId × ClassId × ClassId) (cL : ClassId) (ad : Nat → Nat) (hd : adI SX ad) (ao : Nat) (ha : ¬ adA SX ad ao) (M : Mem) (o : Nat → Int64) (a1 a2 a3 a4 : Int32) (hf : kE_rule a1 a2 a3 a4 M = some 2) : LMet l yL_rule cL_rule 7 [((0), (21), (24), (13)), ((0), (21), (28), (15))] (rm1_ 8 134) N G c3 cL ad ao M o [.ref (ad 0), .int a1, .int a2, .int a3, .int a4, .ref ao] 2 M o := by
  refine LMet.of (by decide +kernel) (Nat.le_of_ble_eq_true rfl) (fun p e s m args below meth c ls F hT hK hP hO hX hr hlk htab hl => ?_)
  have hx := F.1
  have hb := F.2.1
  have F : CallFix p m c cL_rule 7 s args gw RL := F
  have hown := F.2.2.2.1
  have hl : lv_has ls 7 [(0, .ref (ad 0)), (1, .int a1), (2, .int a2), (3, .int a3), (4, .int a4), (5, .ref ao)] := hl
  have hK3 := ty4_3 hK
  have hS : va_S (aL ad ao) s.heap s.heap [] := va_S.rf
  refine lv_aload hx hb d_L_rule_0 (lv_at hl 5 rfl) ?_
  refine lv_iconst (v := 0) hx hb d_L_rule_2 rfl ?_
  refine lv_aload_n hx hb d_L_rule_3 rfl (lv_at hl 0 rfl) ?_
  refine lv_iload_n hx hb d_L_rule_4 rfl (lv_at hl 1 rfl) ?_
  refine lv_iload_n hx hb d_L_rule_5 rfl (lv_at hl 2 rfl) ?_
  refine lv_iload_n hx hb d_L_rule_6 rfl (lv_at hl 3 rfl) ?_
  refine lv_iload hx hb d_L_rule_7 (lv_at hl 4 rfl) ?_
  have hrun := xt_runV (ls := ls) (H := s.heap) (locs := []) (cells := 0) (slots := 0) (rest := [.int 0, .ref ao]) (st0 := [.int a4, .int a3, .int a2, .int a1, .ref (ad 0), .int 0, .ref ao]) (below := below) (meth := meth) (e := e) (R := rm1_ 8 134) F hT (uE_rule l hfl G c3 ad N M a1 a2 a3 a4 2 hf) ⟨okX.blind, va_recv hK3 hP rfl (wd_at sX_0), okX.at (As := [.ref (ad 0), .int a1, .int a2, .int a3, .int a4]) hT hK3 hP hX (fun _ _ => rfl)⟩ wl_L_28 wi_E_rule we_E_rule wn_E wc_E_rule ck_E_rule ⟨by decide, by decide⟩ ⟨by decide, by decide⟩ hl.1 (As := [.int a1, .int a2, .int a3, .int a4]) rfl (Nat.le_of_ble_eq_true rfl) d_L_rule_9
  refine xt_catch2 (C1 := "java/util/NoSuchElementException") (C2 := "java/lang/IllegalArgumentException") hown hrun htab (by decide) (by decide) (hT.1 _ wq_L_13 _) hX.2.2.2.2.1 (by decide) (by decide) (hT.1 _ wq_L_15 _) (va_Nw.use rfl (hT.2.2 _ (List.mem_of_getElem? (i := 1) rfl))) (fun x H1 hk1 hk2 => ?_)
  refine lv_astore (lv' := [(6, .ref x), (0, .ref (ad 0)), (1, .int a1), (2, .int a2), (3, .int a3), (4, .int a4), (5, .ref ao)]) hx hb d_L_rule_28 hl (by decide) rfl (fun ls hl => ?_)
  refine lv_iconst (v := 2) hx hb d_L_rule_30 rfl ?_
  have hP1 := xo_wd hP hk1
  have hO1 := xo_one hO (hk1 ao (xo_lt hO))
  have hS1 : va_S (aL ad ao) s.heap H1 [] := ⟨hk2, fun q hq _ => hk1 q hq, fun _ h => by cases h⟩
  exact xo_ret hx hb hr hlk hP1 hO1 hS1 ⟨by decide, by decide⟩ d_L_rule_31
set_option maxHeartbeats 4000000 in
set_option maxRecDepth 100000 in
theorem hL_fix (l : Launch) (N : Nat) (G : va_G) (c3 : ClassId × ClassId × ClassId) (cL : ClassId) (ad : Nat → Nat) (hd : adI SX ad) (ao : Nat) (ha : ¬ adA SX ad ao) (M : Mem) (o : Nat → Int64) (a1 a2 : Int32) (r : Int32) (M' : Mem) (hf : fE_fix a1 a2 M = some (r, M')) : LMet l yL_fix cL_fix 5 [((0), (10), (13), (13))] (rm1_ 8 133) N G c3 cL ad ao M o [.ref (ad 0), .int a1, .int a2, .ref ao] 0 M' (vp_updL o 0 r.toInt64) := by
  refine LMet.of (by decide +kernel) (Nat.le_of_ble_eq_true rfl) (fun p e s m args below meth c ls F hT hK hP hO hX hr hlk htab hl => ?_)
  have hx := F.1
  have hb := F.2.1
  have F : CallFix p m c cL_fix 5 s args gw RL := F
  have hown := F.2.2.2.1
  have hl : lv_has ls 5 [(0, .ref (ad 0)), (1, .int a1), (2, .int a2), (3, .ref ao)] := hl
  have hK3 := ty4_3 hK
  have hS : va_S (aL ad ao) s.heap s.heap [] := va_S.rf
  refine lv_aload_n hx hb d_L_fix_0 rfl (lv_at hl 3 rfl) ?_
  refine lv_iconst (v := 0) hx hb d_L_fix_1 rfl ?_
  refine lv_aload_n hx hb d_L_fix_2 rfl (lv_at hl 0 rfl) ?_
  refine lv_iload_n hx hb d_L_fix_3 rfl (lv_at hl 1 rfl) ?_
  refine lv_iload_n hx hb d_L_fix_4 rfl (lv_at hl 2 rfl) ?_
  refine xc_wv (rest := [.int 0, .ref ao]) F hT hK3 hP hS (fun _ h => Or.inl h) (tE_fix l G c3 ad hd M a1 a2 r M' hf) sX_0 rfl wl_L_32 wi_E_fix we_E_fix wn_E wc_E_fix ck_E_fix ⟨rfl, rfl⟩ ⟨by decide, by decide⟩ ⟨Nat.zero_le _, Nat.zero_le _⟩ hl.1 rfl (Nat.le_of_ble_eq_true rfl) d_L_fix_5 (fun H locs hP hS hkp => ?_)
  have hO := xo_one hO (hkp ao (xo_lt hO) ha)
  refine lv_i2l hx hb d_L_fix_8 rfl ?_
  refine xo_last hx hb hd ha (fun _ h => h) hK hP hO hS d_L_fix_9 (fun H locs hP hO hS => ?_)
  refine lv_goto (tgt := 17) hx hb d_L_fix_10 rfl ?_
  refine lv_iconst (v := 0) hx hb d_L_fix_17 rfl ?_
  exact xo_ret hx hb hr hlk hP hO hS ⟨Nat.zero_le _, Nat.zero_le _⟩ d_L_fix_18
set_option maxHeartbeats 4000000 in
set_option maxRecDepth 100000 in
theorem hL_fix_x1 (l : Launch) (hfl : l.flags = flags0) (N : Nat) (G : va_G) (c3 : ClassId × ClassId × ClassId) (cL : ClassId) (ad : Nat → Nat) (hd : adI SX ad) (ao : Nat) (ha : ¬ adA SX ad ao) (M : Mem) (o : Nat → Int64) (a1 a2 : Int32) (hf : kE_fix a1 a2 M = some 1) : LMet l yL_fix cL_fix 5 [((0), (10), (13), (13))] (rm1_ 8 133) N G c3 cL ad ao M o [.ref (ad 0), .int a1, .int a2, .ref ao] 1 M o := by
  refine LMet.of (by decide +kernel) (Nat.le_of_ble_eq_true rfl) (fun p e s m args below meth c ls F hT hK hP hO hX hr hlk htab hl => ?_)
  have hx := F.1
  have hb := F.2.1
  have F : CallFix p m c cL_fix 5 s args gw RL := F
  have hown := F.2.2.2.1
  have hl : lv_has ls 5 [(0, .ref (ad 0)), (1, .int a1), (2, .int a2), (3, .ref ao)] := hl
  have hK3 := ty4_3 hK
  have hS : va_S (aL ad ao) s.heap s.heap [] := va_S.rf
  refine lv_aload_n hx hb d_L_fix_0 rfl (lv_at hl 3 rfl) ?_
  refine lv_iconst (v := 0) hx hb d_L_fix_1 rfl ?_
  refine lv_aload_n hx hb d_L_fix_2 rfl (lv_at hl 0 rfl) ?_
  refine lv_iload_n hx hb d_L_fix_3 rfl (lv_at hl 1 rfl) ?_
  refine lv_iload_n hx hb d_L_fix_4 rfl (lv_at hl 2 rfl) ?_
  have hrun := xt_runV (ls := ls) (H := s.heap) (locs := []) (cells := 0) (slots := 0) (rest := [.int 0, .ref ao]) (st0 := [.int a2, .int a1, .ref (ad 0), .int 0, .ref ao]) (below := below) (meth := meth) (e := e) (R := rm1_ 8 133) F hT (uE_fix l hfl G c3 ad N M a1 a2 1 hf) ⟨okX.blind, va_recv hK3 hP rfl (wd_at sX_0), okX.at (As := [.ref (ad 0), .int a1, .int a2]) hT hK3 hP hX (fun _ _ => rfl)⟩ wl_L_32 wi_E_fix we_E_fix wn_E wc_E_fix ck_E_fix ⟨by decide, by decide⟩ ⟨by decide, by decide⟩ hl.1 (As := [.int a1, .int a2]) rfl (Nat.le_of_ble_eq_true rfl) d_L_fix_5
  refine xt_catch1 (C1 := "java/util/NoSuchElementException") hown hrun htab (by decide) (by decide) (hT.1 _ wq_L_13 _) (va_Nw.use rfl (hT.2.2 _ (List.mem_of_getElem? (i := 0) rfl))) (fun x H1 hk1 hk2 => ?_)
  refine lv_astore (lv' := [(4, .ref x), (0, .ref (ad 0)), (1, .int a1), (2, .int a2), (3, .ref ao)]) hx hb d_L_fix_13 hl (by decide) rfl (fun ls hl => ?_)
  refine lv_iconst (v := 1) hx hb d_L_fix_15 rfl ?_
  have hP1 := xo_wd hP hk1
  have hO1 := xo_one hO (hk1 ao (xo_lt hO))
  have hS1 : va_S (aL ad ao) s.heap H1 [] := ⟨hk2, fun q hq _ => hk1 q hq, fun _ h => by cases h⟩
  exact xo_ret hx hb hr hlk hP1 hO1 hS1 ⟨by decide, by decide⟩ d_L_fix_16
set_option maxHeartbeats 4000000 in
set_option maxRecDepth 100000 in
theorem hL_clash (l : Launch) (N : Nat) (G : va_G) (c3 : ClassId × ClassId × ClassId) (cL : ClassId) (ad : Nat → Nat) (hd : adI SX ad) (ao : Nat) (ha : ¬ adA SX ad ao) (M : Mem) (o : Nat → Int64) (a1 a2 : Int32) (r : Int32) (hf : fE_clash a1 a2 M = some r) : LMet l yL_clash cL_clash 5 [((0), (10), (13), (13))] (rm1_ 8 132) N G c3 cL ad ao M o [.ref (ad 0), .int a1, .int a2, .ref ao] 0 M (vp_updL o 0 r.toInt64) := by
  refine LMet.of (by decide +kernel) (Nat.le_of_ble_eq_true rfl) (fun p e s m args below meth c ls F hT hK hP hO hX hr hlk htab hl => ?_)
  have hx := F.1
  have hb := F.2.1
  have F : CallFix p m c cL_clash 5 s args gw RL := F
  have hown := F.2.2.2.1
  have hl : lv_has ls 5 [(0, .ref (ad 0)), (1, .int a1), (2, .int a2), (3, .ref ao)] := hl
  have hK3 := ty4_3 hK
  have hS : va_S (aL ad ao) s.heap s.heap [] := va_S.rf
  refine lv_aload_n hx hb d_L_clash_0 rfl (lv_at hl 3 rfl) ?_
  refine lv_iconst (v := 0) hx hb d_L_clash_1 rfl ?_
  refine lv_aload_n hx hb d_L_clash_2 rfl (lv_at hl 0 rfl) ?_
  refine lv_iload_n hx hb d_L_clash_3 rfl (lv_at hl 1 rfl) ?_
  refine lv_iload_n hx hb d_L_clash_4 rfl (lv_at hl 2 rfl) ?_
  refine xc_rv (rest := [.int 0, .ref ao]) F hT hK3 hP (tE_clash l G c3 ad M a1 a2 r hf) sX_0 rfl wl_L_35 wi_E_clash we_E_clash wn_E wc_E_clash ck_E_clash ⟨rfl, rfl⟩ ⟨by decide, by decide⟩ ⟨Nat.zero_le _, Nat.zero_le _⟩ hl.1 rfl (Nat.le_of_ble_eq_true rfl) d_L_clash_5 ?_
  refine lv_i2l hx hb d_L_clash_8 rfl ?_
  refine xo_last hx hb hd ha (fun _ h => h) hK hP hO hS d_L_clash_9 (fun H locs hP hO hS => ?_)
  refine lv_goto (tgt := 17) hx hb d_L_clash_10 rfl ?_
  refine lv_iconst (v := 0) hx hb d_L_clash_17 rfl ?_
  exact xo_ret hx hb hr hlk hP hO hS ⟨Nat.zero_le _, Nat.zero_le _⟩ d_L_clash_18
set_option maxHeartbeats 4000000 in
set_option maxRecDepth 100000 in
theorem hL_clash_x1 (l : Launch) (hfl : l.flags = flags0) (N : Nat) (G : va_G) (c3 : ClassId × ClassId × ClassId) (cL : ClassId) (ad : Nat → Nat) (hd : adI SX ad) (ao : Nat) (ha : ¬ adA SX ad ao) (M : Mem) (o : Nat → Int64) (a1 a2 : Int32) (hf : kE_clash a1 a2 M = some 1) : LMet l yL_clash cL_clash 5 [((0), (10), (13), (13))] (rm1_ 8 132) N G c3 cL ad ao M o [.ref (ad 0), .int a1, .int a2, .ref ao] 1 M o := by
  refine LMet.of (by decide +kernel) (Nat.le_of_ble_eq_true rfl) (fun p e s m args below meth c ls F hT hK hP hO hX hr hlk htab hl => ?_)
  have hx := F.1
  have hb := F.2.1
  have F : CallFix p m c cL_clash 5 s args gw RL := F
  have hown := F.2.2.2.1
  have hl : lv_has ls 5 [(0, .ref (ad 0)), (1, .int a1), (2, .int a2), (3, .ref ao)] := hl
  have hK3 := ty4_3 hK
  have hS : va_S (aL ad ao) s.heap s.heap [] := va_S.rf
  refine lv_aload_n hx hb d_L_clash_0 rfl (lv_at hl 3 rfl) ?_
  refine lv_iconst (v := 0) hx hb d_L_clash_1 rfl ?_
  refine lv_aload_n hx hb d_L_clash_2 rfl (lv_at hl 0 rfl) ?_
  refine lv_iload_n hx hb d_L_clash_3 rfl (lv_at hl 1 rfl) ?_
  refine lv_iload_n hx hb d_L_clash_4 rfl (lv_at hl 2 rfl) ?_
  have hrun := xt_runV (ls := ls) (H := s.heap) (locs := []) (cells := 0) (slots := 0) (rest := [.int 0, .ref ao]) (st0 := [.int a2, .int a1, .ref (ad 0), .int 0, .ref ao]) (below := below) (meth := meth) (e := e) (R := rm1_ 8 132) F hT (uE_clash l hfl G c3 ad N M a1 a2 1 hf) ⟨okX.blind, va_recv hK3 hP rfl (wd_at sX_0), okX.at (As := [.ref (ad 0), .int a1, .int a2]) hT hK3 hP hX (fun _ _ => rfl)⟩ wl_L_35 wi_E_clash we_E_clash wn_E wc_E_clash ck_E_clash ⟨by decide, by decide⟩ ⟨by decide, by decide⟩ hl.1 (As := [.int a1, .int a2]) rfl (Nat.le_of_ble_eq_true rfl) d_L_clash_5
  refine xt_catch1 (C1 := "java/util/NoSuchElementException") hown hrun htab (by decide) (by decide) (hT.1 _ wq_L_13 _) (va_Nw.use rfl (hT.2.2 _ (List.mem_of_getElem? (i := 0) rfl))) (fun x H1 hk1 hk2 => ?_)
  refine lv_astore (lv' := [(4, .ref x), (0, .ref (ad 0)), (1, .int a1), (2, .int a2), (3, .ref ao)]) hx hb d_L_clash_13 hl (by decide) rfl (fun ls hl => ?_)
  refine lv_iconst (v := 1) hx hb d_L_clash_15 rfl ?_
  have hP1 := xo_wd hP hk1
  have hO1 := xo_one hO (hk1 ao (xo_lt hO))
  have hS1 : va_S (aL ad ao) s.heap H1 [] := ⟨hk2, fun q hq _ => hk1 q hq, fun _ h => by cases h⟩
  exact xo_ret hx hb hr hlk hP1 hO1 hS1 ⟨by decide, by decide⟩ d_L_clash_16
set_option maxHeartbeats 4000000 in
set_option maxRecDepth 100000 in
theorem hL_planned (l : Launch) (N : Nat) (G : va_G) (c3 : ClassId × ClassId × ClassId) (cL : ClassId) (ad : Nat → Nat) (hd : adI SX ad) (ao : Nat) (ha : ¬ adA SX ad ao) (M : Mem) (o : Nat → Int64) (a1 : Int32) (r : Int32) (hf : fE_planned a1 M = some r) : LMet l yL_planned cL_planned 4 [((0), (9), (12), (13))] (rm1_ 8 131) N G c3 cL ad ao M o [.ref (ad 0), .int a1, .ref ao] 0 M (vp_updL o 0 r.toInt64) := by
  refine LMet.of (by decide +kernel) (Nat.le_of_ble_eq_true rfl) (fun p e s m args below meth c ls F hT hK hP hO hX hr hlk htab hl => ?_)
  have hx := F.1
  have hb := F.2.1
  have F : CallFix p m c cL_planned 4 s args gw RL := F
  have hown := F.2.2.2.1
  have hl : lv_has ls 4 [(0, .ref (ad 0)), (1, .int a1), (2, .ref ao)] := hl
  have hK3 := ty4_3 hK
  have hS : va_S (aL ad ao) s.heap s.heap [] := va_S.rf
  refine lv_aload_n hx hb d_L_planned_0 rfl (lv_at hl 2 rfl) ?_
  refine lv_iconst (v := 0) hx hb d_L_planned_1 rfl ?_
  refine lv_aload_n hx hb d_L_planned_2 rfl (lv_at hl 0 rfl) ?_
  refine lv_iload_n hx hb d_L_planned_3 rfl (lv_at hl 1 rfl) ?_
  refine xc_rv (rest := [.int 0, .ref ao]) F hT hK3 hP (tE_planned l G c3 ad M a1 r hf) sX_0 rfl wl_L_38 wi_E_planned we_E_planned wn_E wc_E_planned ck_E_planned ⟨rfl, rfl⟩ ⟨by decide, by decide⟩ ⟨Nat.zero_le _, Nat.zero_le _⟩ hl.1 rfl (Nat.le_of_ble_eq_true rfl) d_L_planned_4 ?_
  refine lv_i2l hx hb d_L_planned_7 rfl ?_
  refine xo_last hx hb hd ha (fun _ h => h) hK hP hO hS d_L_planned_8 (fun H locs hP hO hS => ?_)
  refine lv_goto (tgt := 15) hx hb d_L_planned_9 rfl ?_
  refine lv_iconst (v := 0) hx hb d_L_planned_15 rfl ?_
  exact xo_ret hx hb hr hlk hP hO hS ⟨Nat.zero_le _, Nat.zero_le _⟩ d_L_planned_16
set_option maxHeartbeats 4000000 in
set_option maxRecDepth 100000 in
theorem hL_planned_x1 (l : Launch) (hfl : l.flags = flags0) (N : Nat) (G : va_G) (c3 : ClassId × ClassId × ClassId) (cL : ClassId) (ad : Nat → Nat) (hd : adI SX ad) (ao : Nat) (ha : ¬ adA SX ad ao) (M : Mem) (o : Nat → Int64) (a1 : Int32) (hf : kE_planned a1 M = some 1) : LMet l yL_planned cL_planned 4 [((0), (9), (12), (13))] (rm1_ 8 131) N G c3 cL ad ao M o [.ref (ad 0), .int a1, .ref ao] 1 M o := by
  refine LMet.of (by decide +kernel) (Nat.le_of_ble_eq_true rfl) (fun p e s m args below meth c ls F hT hK hP hO hX hr hlk htab hl => ?_)
  have hx := F.1
  have hb := F.2.1
  have F : CallFix p m c cL_planned 4 s args gw RL := F
  have hown := F.2.2.2.1
  have hl : lv_has ls 4 [(0, .ref (ad 0)), (1, .int a1), (2, .ref ao)] := hl
  have hK3 := ty4_3 hK
  have hS : va_S (aL ad ao) s.heap s.heap [] := va_S.rf
  refine lv_aload_n hx hb d_L_planned_0 rfl (lv_at hl 2 rfl) ?_
  refine lv_iconst (v := 0) hx hb d_L_planned_1 rfl ?_
  refine lv_aload_n hx hb d_L_planned_2 rfl (lv_at hl 0 rfl) ?_
  refine lv_iload_n hx hb d_L_planned_3 rfl (lv_at hl 1 rfl) ?_
  have hrun := xt_runV (ls := ls) (H := s.heap) (locs := []) (cells := 0) (slots := 0) (rest := [.int 0, .ref ao]) (st0 := [.int a1, .ref (ad 0), .int 0, .ref ao]) (below := below) (meth := meth) (e := e) (R := rm1_ 8 131) F hT (uE_planned l hfl G c3 ad N M a1 1 hf) ⟨okX.blind, va_recv hK3 hP rfl (wd_at sX_0), okX.at (As := [.ref (ad 0), .int a1]) hT hK3 hP hX (fun _ _ => rfl)⟩ wl_L_38 wi_E_planned we_E_planned wn_E wc_E_planned ck_E_planned ⟨by decide, by decide⟩ ⟨by decide, by decide⟩ hl.1 (As := [.int a1]) rfl (Nat.le_of_ble_eq_true rfl) d_L_planned_4
  refine xt_catch1 (C1 := "java/util/NoSuchElementException") hown hrun htab (by decide) (by decide) (hT.1 _ wq_L_13 _) (va_Nw.use rfl (hT.2.2 _ (List.mem_of_getElem? (i := 0) rfl))) (fun x H1 hk1 hk2 => ?_)
  refine lv_astore_n (lv' := [(3, .ref x), (0, .ref (ad 0)), (1, .int a1), (2, .ref ao)]) hx hb d_L_planned_12 rfl hl (by decide) rfl (fun ls hl => ?_)
  refine lv_iconst (v := 1) hx hb d_L_planned_13 rfl ?_
  have hP1 := xo_wd hP hk1
  have hO1 := xo_one hO (hk1 ao (xo_lt hO))
  have hS1 : va_S (aL ad ao) s.heap H1 [] := ⟨hk2, fun q hq _ => hk1 q hq, fun _ h => by cases h⟩
  exact xo_ret hx hb hr hlk hP1 hO1 hS1 ⟨by decide, by decide⟩ d_L_planned_14
set_option maxHeartbeats 4000000 in
set_option maxRecDepth 100000 in
theorem hL_room (l : Launch) (N : Nat) (G : va_G) (c3 : ClassId × ClassId × ClassId) (cL : ClassId) (ad : Nat → Nat) (hd : adI SX ad) (ao : Nat) (ha : ¬ adA SX ad ao) (M : Mem) (o : Nat → Int64) (a1 a2 a3 a4 : Int32) (M' : Mem) (hf : fE_room a1 a2 a3 a4 M = some M') : LMet l yL_room cL_room 6 [((0), (9), (12), (13)), ((0), (9), (16), (15))] (rm1_ 8 134) N G c3 cL ad ao M o [.ref (ad 0), .int a1, .int a2, .int a3, .int a4] 0 M' o := by
  refine LMet.of (by decide +kernel) (Nat.le_of_ble_eq_true rfl) (fun p e s m args below meth c ls F hT hK hP hO hX hr hlk htab hl => ?_)
  have hx := F.1
  have hb := F.2.1
  have F : CallFix p m c cL_room 6 s args gw RL := F
  have hown := F.2.2.2.1
  have hl : lv_has ls 6 [(0, .ref (ad 0)), (1, .int a1), (2, .int a2), (3, .int a3), (4, .int a4)] := hl
  have hK3 := ty4_3 hK
  have hS : va_S (aL ad ao) s.heap s.heap [] := va_S.rf
  refine lv_aload_n hx hb d_L_room_0 rfl (lv_at hl 0 rfl) ?_
  refine lv_iload_n hx hb d_L_room_1 rfl (lv_at hl 1 rfl) ?_
  refine lv_iload_n hx hb d_L_room_2 rfl (lv_at hl 2 rfl) ?_
  refine lv_iload_n hx hb d_L_room_3 rfl (lv_at hl 3 rfl) ?_
  refine lv_iload hx hb d_L_room_4 (lv_at hl 4 rfl) ?_
  refine xc_wv (rest := []) F hT hK3 hP hS (fun _ h => Or.inl h) (tE_room l G c3 ad hd M a1 a2 a3 a4 M' hf) sX_0 rfl wl_L_42 wi_E_room we_E_room wn_E wc_E_room ck_E_room ⟨rfl, rfl⟩ ⟨by decide, by decide⟩ ⟨Nat.zero_le _, Nat.zero_le _⟩ hl.1 rfl (Nat.le_of_ble_eq_true rfl) d_L_room_6 (fun H locs hP hS hkp => ?_)
  have hO := xo_one hO (hkp ao (xo_lt hO) ha)
  refine lv_goto (tgt := 20) hx hb d_L_room_9 rfl ?_
  refine lv_iconst (v := 0) hx hb d_L_room_20 rfl ?_
  exact xo_ret hx hb hr hlk hP hO hS ⟨Nat.zero_le _, Nat.zero_le _⟩ d_L_room_21
set_option maxHeartbeats 4000000 in
set_option maxRecDepth 100000 in
theorem hL_room_x1 (l : Launch) (hfl : l.flags = flags0) (N : Nat) (G : va_G) (c3 : ClassId × ClassId × ClassId) (cL : ClassId) (ad : Nat → Nat) (hd : adI SX ad) (ao : Nat) (ha : ¬ adA SX ad ao) (M : Mem) (o : Nat → Int64) (a1 a2 a3 a4 : Int32) (hf : kE_room a1 a2 a3 a4 M = some 1) : LMet l yL_room cL_room 6 [((0), (9), (12), (13)), ((0), (9), (16), (15))] (rm1_ 8 134) N G c3 cL ad ao M o [.ref (ad 0), .int a1, .int a2, .int a3, .int a4] 1 M o := by
  refine LMet.of (by decide +kernel) (Nat.le_of_ble_eq_true rfl) (fun p e s m args below meth c ls F hT hK hP hO hX hr hlk htab hl => ?_)
  have hx := F.1
  have hb := F.2.1
  have F : CallFix p m c cL_room 6 s args gw RL := F
  have hown := F.2.2.2.1
  have hl : lv_has ls 6 [(0, .ref (ad 0)), (1, .int a1), (2, .int a2), (3, .int a3), (4, .int a4)] := hl
  have hK3 := ty4_3 hK
  have hS : va_S (aL ad ao) s.heap s.heap [] := va_S.rf
  refine lv_aload_n hx hb d_L_room_0 rfl (lv_at hl 0 rfl) ?_
  refine lv_iload_n hx hb d_L_room_1 rfl (lv_at hl 1 rfl) ?_
  refine lv_iload_n hx hb d_L_room_2 rfl (lv_at hl 2 rfl) ?_
  refine lv_iload_n hx hb d_L_room_3 rfl (lv_at hl 3 rfl) ?_
  refine lv_iload hx hb d_L_room_4 (lv_at hl 4 rfl) ?_
  have hrun := xt_runV (ls := ls) (H := s.heap) (locs := []) (cells := 0) (slots := 0) (rest := []) (st0 := [.int a4, .int a3, .int a2, .int a1, .ref (ad 0)]) (below := below) (meth := meth) (e := e) (R := rm1_ 8 134) F hT (uE_room l hfl G c3 ad N M a1 a2 a3 a4 1 hf) ⟨okX.blind, va_recv hK3 hP rfl (wd_at sX_0), okX.at (As := [.ref (ad 0), .int a1, .int a2, .int a3, .int a4]) hT hK3 hP hX (fun _ _ => rfl)⟩ wl_L_42 wi_E_room we_E_room wn_E wc_E_room ck_E_room ⟨by decide, by decide⟩ ⟨by decide, by decide⟩ hl.1 (As := [.int a1, .int a2, .int a3, .int a4]) rfl (Nat.le_of_ble_eq_true rfl) d_L_room_6
  refine xt_catch1 (C1 := "java/util/NoSuchElementException") hown hrun htab (by decide) (by decide) (hT.1 _ wq_L_13 _) (va_Nw.use rfl (hT.2.2 _ (List.mem_of_getElem? (i := 0) rfl))) (fun x H1 hk1 hk2 => ?_)
  refine lv_astore (lv' := [(5, .ref x), (0, .ref (ad 0)), (1, .int a1), (2, .int a2), (3, .int a3), (4, .int a4)]) hx hb d_L_room_12 hl (by decide) rfl (fun ls hl => ?_)
  refine lv_iconst (v := 1) hx hb d_L_room_14 rfl ?_
  have hP1 := xo_wd hP hk1
  have hO1 := xo_one hO (hk1 ao (xo_lt hO))
  have hS1 : va_S (aL ad ao) s.heap H1 [] := ⟨hk2, fun q hq _ => hk1 q hq, fun _ h => by cases h⟩
  exact xo_ret hx hb hr hlk hP1 hO1 hS1 ⟨by decide, by decide⟩ d_L_room_15
set_option maxHeartbeats 4000000 in
set_option maxRecDepth 100000 in
theorem hL_room_x2 (l : Launch) (hfl : l.flags = flags0) (N : Nat) (G : va_G) (c3 : ClassId × ClassId × ClassId) (cL : ClassId) (ad : Nat → Nat) (hd : adI SX ad) (ao : Nat) (ha : ¬ adA SX ad ao) (M : Mem) (o : Nat → Int64) (a1 a2 a3 a4 : Int32) (hf : kE_room a1 a2 a3 a4 M = some 2) : LMet l yL_room cL_room 6 [((0), (9), (12), (13)), ((0), (9), (16), (15))] (rm1_ 8 134) N G c3 cL ad ao M o [.ref (ad 0), .int a1, .int a2, .int a3, .int a4] 2 M o := by
  refine LMet.of (by decide +kernel) (Nat.le_of_ble_eq_true rfl) (fun p e s m args below meth c ls F hT hK hP hO hX hr hlk htab hl => ?_)
  have hx := F.1
  have hb := F.2.1
  have F : CallFix p m c cL_room 6 s args gw RL := F
  have hown := F.2.2.2.1
  have hl : lv_has ls 6 [(0, .ref (ad 0)), (1, .int a1), (2, .int a2), (3, .int a3), (4, .int a4)] := hl
  have hK3 := ty4_3 hK
  have hS : va_S (aL ad ao) s.heap s.heap [] := va_S.rf
  refine lv_aload_n hx hb d_L_room_0 rfl (lv_at hl 0 rfl) ?_
  refine lv_iload_n hx hb d_L_room_1 rfl (lv_at hl 1 rfl) ?_
  refine lv_iload_n hx hb d_L_room_2 rfl (lv_at hl 2 rfl) ?_
  refine lv_iload_n hx hb d_L_room_3 rfl (lv_at hl 3 rfl) ?_
  refine lv_iload hx hb d_L_room_4 (lv_at hl 4 rfl) ?_
  have hrun := xt_runV (ls := ls) (H := s.heap) (locs := []) (cells := 0) (slots := 0) (rest := []) (st0 := [.int a4, .int a3, .int a2, .int a1, .ref (ad 0)]) (below := below) (meth := meth) (e := e) (R := rm1_ 8 134) F hT (uE_room l hfl G c3 ad N M a1 a2 a3 a4 2 hf) ⟨okX.blind, va_recv hK3 hP rfl (wd_at sX_0), okX.at (As := [.ref (ad 0), .int a1, .int a2, .int a3, .int a4]) hT hK3 hP hX (fun _ _ => rfl)⟩ wl_L_42 wi_E_room we_E_room wn_E wc_E_room ck_E_room ⟨by decide, by decide⟩ ⟨by decide, by decide⟩ hl.1 (As := [.int a1, .int a2, .int a3, .int a4]) rfl (Nat.le_of_ble_eq_true rfl) d_L_room_6
  refine xt_catch2 (C1 := "java/util/NoSuchElementException") (C2 := "java/lang/IllegalArgumentException") hown hrun htab (by decide) (by decide) (hT.1 _ wq_L_13 _) hX.2.2.2.2.1 (by decide) (by decide) (hT.1 _ wq_L_15 _) (va_Nw.use rfl (hT.2.2 _ (List.mem_of_getElem? (i := 1) rfl))) (fun x H1 hk1 hk2 => ?_)
  refine lv_astore (lv' := [(5, .ref x), (0, .ref (ad 0)), (1, .int a1), (2, .int a2), (3, .int a3), (4, .int a4)]) hx hb d_L_room_16 hl (by decide) rfl (fun ls hl => ?_)
  refine lv_iconst (v := 2) hx hb d_L_room_18 rfl ?_
  have hP1 := xo_wd hP hk1
  have hO1 := xo_one hO (hk1 ao (xo_lt hO))
  have hS1 : va_S (aL ad ao) s.heap H1 [] := ⟨hk2, fun q hq _ => hk1 q hq, fun _ h => by cases h⟩
  exact xo_ret hx hb hr hlk hP1 hO1 hS1 ⟨by decide, by decide⟩ d_L_room_19
set_option maxHeartbeats 4000000 in
set_option maxRecDepth 100000 in
theorem hL_block (l : Launch) (N : Nat) (G : va_G) (c3 : ClassId × ClassId × ClassId) (cL : ClassId) (ad : Nat → Nat) (hd : adI SX ad) (ao : Nat) (ha : ¬ adA SX ad ao) (M : Mem) (o : Nat → Int64) (a1 a2 a3 a4 : Int32) (r : Int32) (M' : Mem) (hf : fE_block a1 a2 a3 a4 M = some (r, M')) : LMet l yL_block cL_block 7 [((0), (21), (24), (13)), ((0), (21), (28), (49))] (rm1_ 8 136) N G c3 cL ad ao M o [.ref (ad 0), .int a1, .int a2, .int a3, .int a4, .ref ao] 0 M' (vp_updL o 0 (zl r)) := by
  refine LMet.of (by decide +kernel) (Nat.le_of_ble_eq_true rfl) (fun p e s m args below meth c ls F hT hK hP hO hX hr hlk htab hl => ?_)
  have hx := F.1
  have hb := F.2.1
  have F : CallFix p m c cL_block 7 s args gw RL := F
  have hown := F.2.2.2.1
  have hl : lv_has ls 7 [(0, .ref (ad 0)), (1, .int a1), (2, .int a2), (3, .int a3), (4, .int a4), (5, .ref ao)] := hl
  have hK3 := ty4_3 hK
  have hS : va_S (aL ad ao) s.heap s.heap [] := va_S.rf
  refine lv_aload hx hb d_L_block_0 (lv_at hl 5 rfl) ?_
  refine lv_iconst (v := 0) hx hb d_L_block_2 rfl ?_
  refine lv_aload_n hx hb d_L_block_3 rfl (lv_at hl 0 rfl) ?_
  refine lv_iload_n hx hb d_L_block_4 rfl (lv_at hl 1 rfl) ?_
  refine lv_iload_n hx hb d_L_block_5 rfl (lv_at hl 2 rfl) ?_
  refine lv_iload_n hx hb d_L_block_6 rfl (lv_at hl 3 rfl) ?_
  refine lv_iload hx hb d_L_block_7 (lv_at hl 4 rfl) ?_
  refine xc_wv (rest := [.int 0, .ref ao]) F hT hK3 hP hS (fun _ h => Or.inl h) (tE_block l G c3 ad hd M a1 a2 a3 a4 r M' hf) sX_0 rfl wl_L_46 wi_E_block we_E_block wn_E wc_E_block ck_E_block ⟨rfl, rfl⟩ ⟨by decide, by decide⟩ ⟨Nat.zero_le _, Nat.zero_le _⟩ hl.1 rfl (Nat.le_of_ble_eq_true rfl) d_L_block_9 (fun H locs hP hS hkp => ?_)
  have hO := xo_one hO (hkp ao (xo_lt hO) ha)
  refine lv_if_eq (tgt := 19) hx hb d_L_block_12 rfl (fun hc => ?_) (fun hc => ?_)
  · have hz : zl r = 0 := if_pos hc
    rw [hz]
    refine lv_lconst (v := 0) hx hb d_L_block_19 rfl ?_
    refine xo_last hx hb hd ha (fun _ h => h) hK hP hO hS d_L_block_20 (fun H locs hP hO hS => ?_)
    refine lv_goto (tgt := 32) hx hb d_L_block_21 rfl ?_
    refine lv_iconst (v := 0) hx hb d_L_block_32 rfl ?_
    exact xo_ret hx hb hr hlk hP hO hS ⟨Nat.zero_le _, Nat.zero_le _⟩ d_L_block_33
  · have hz : zl r = 1 := if_neg hc
    rw [hz]
    refine lv_lconst (v := 1) hx hb d_L_block_15 rfl ?_
    refine lv_goto (tgt := 20) hx hb d_L_block_16 rfl ?_
    refine xo_last hx hb hd ha (fun _ h => h) hK hP hO hS d_L_block_20 (fun H locs hP hO hS => ?_)
    refine lv_goto (tgt := 32) hx hb d_L_block_21 rfl ?_
    refine lv_iconst (v := 0) hx hb d_L_block_32 rfl ?_
    exact xo_ret hx hb hr hlk hP hO hS ⟨Nat.zero_le _, Nat.zero_le _⟩ d_L_block_33
set_option maxHeartbeats 4000000 in
set_option maxRecDepth 100000 in
theorem hL_block_x1 (l : Launch) (hfl : l.flags = flags0) (N : Nat) (G : va_G) (c3 : ClassId × ClassId × ClassId) (cL : ClassId) (ad : Nat → Nat) (hd : adI SX ad) (ao : Nat) (ha : ¬ adA SX ad ao) (M : Mem) (o : Nat → Int64) (a1 a2 a3 a4 : Int32) (hf : kE_block a1 a2 a3 a4 M = some 1) : LMet l yL_block cL_block 7 [((0), (21), (24), (13)), ((0), (21), (28), (49))] (rm1_ 8 136) N G c3 cL ad ao M o [.ref (ad 0), .int a1, .int a2, .int a3, .int a4, .ref ao] 1 M o := by
  refine LMet.of (by decide +kernel) (Nat.le_of_ble_eq_true rfl) (fun p e s m args below meth c ls F hT hK hP hO hX hr hlk htab hl => ?_)
  have hx := F.1
  have hb := F.2.1
  have F : CallFix p m c cL_block 7 s args gw RL := F
  have hown := F.2.2.2.1
  have hl : lv_has ls 7 [(0, .ref (ad 0)), (1, .int a1), (2, .int a2), (3, .int a3), (4, .int a4), (5, .ref ao)] := hl
  have hK3 := ty4_3 hK
  have hS : va_S (aL ad ao) s.heap s.heap [] := va_S.rf
  refine lv_aload hx hb d_L_block_0 (lv_at hl 5 rfl) ?_
  refine lv_iconst (v := 0) hx hb d_L_block_2 rfl ?_
  refine lv_aload_n hx hb d_L_block_3 rfl (lv_at hl 0 rfl) ?_
  refine lv_iload_n hx hb d_L_block_4 rfl (lv_at hl 1 rfl) ?_
  refine lv_iload_n hx hb d_L_block_5 rfl (lv_at hl 2 rfl) ?_
  refine lv_iload_n hx hb d_L_block_6 rfl (lv_at hl 3 rfl) ?_
  refine lv_iload hx hb d_L_block_7 (lv_at hl 4 rfl) ?_
  have hrun := xt_runV (ls := ls) (H := s.heap) (locs := []) (cells := 0) (slots := 0) (rest := [.int 0, .ref ao]) (st0 := [.int a4, .int a3, .int a2, .int a1, .ref (ad 0), .int 0, .ref ao]) (below := below) (meth := meth) (e := e) (R := rm1_ 8 136) F hT (uE_block l hfl G c3 ad N M a1 a2 a3 a4 1 hf) ⟨okX.blind, va_recv hK3 hP rfl (wd_at sX_0), okX.at (As := [.ref (ad 0), .int a1, .int a2, .int a3, .int a4]) hT hK3 hP hX (fun _ _ => rfl)⟩ wl_L_46 wi_E_block we_E_block wn_E wc_E_block ck_E_block ⟨by decide, by decide⟩ ⟨by decide, by decide⟩ hl.1 (As := [.int a1, .int a2, .int a3, .int a4]) rfl (Nat.le_of_ble_eq_true rfl) d_L_block_9
  refine xt_catch1 (C1 := "java/util/NoSuchElementException") hown hrun htab (by decide) (by decide) (hT.1 _ wq_L_13 _) (va_Nw.use rfl (hT.2.2 _ (List.mem_of_getElem? (i := 0) rfl))) (fun x H1 hk1 hk2 => ?_)
  refine lv_astore (lv' := [(6, .ref x), (0, .ref (ad 0)), (1, .int a1), (2, .int a2), (3, .int a3), (4, .int a4), (5, .ref ao)]) hx hb d_L_block_24 hl (by decide) rfl (fun ls hl => ?_)
  refine lv_iconst (v := 1) hx hb d_L_block_26 rfl ?_
  have hP1 := xo_wd hP hk1
  have hO1 := xo_one hO (hk1 ao (xo_lt hO))
  have hS1 : va_S (aL ad ao) s.heap H1 [] := ⟨hk2, fun q hq _ => hk1 q hq, fun _ h => by cases h⟩
  exact xo_ret hx hb hr hlk hP1 hO1 hS1 ⟨by decide, by decide⟩ d_L_block_27
set_option maxHeartbeats 4000000 in
set_option maxRecDepth 100000 in
theorem hL_block_x3 (l : Launch) (hfl : l.flags = flags0) (N : Nat) (G : va_G) (c3 : ClassId × ClassId × ClassId) (cL : ClassId) (ad : Nat → Nat) (hd : adI SX ad) (ao : Nat) (ha : ¬ adA SX ad ao) (M : Mem) (o : Nat → Int64) (a1 a2 a3 a4 : Int32) (hf : kE_block a1 a2 a3 a4 M = some 3) : LMet l yL_block cL_block 7 [((0), (21), (24), (13)), ((0), (21), (28), (49))] (rm1_ 8 136) N G c3 cL ad ao M o [.ref (ad 0), .int a1, .int a2, .int a3, .int a4, .ref ao] 2 M o := by
  refine LMet.of (by decide +kernel) (Nat.le_of_ble_eq_true rfl) (fun p e s m args below meth c ls F hT hK hP hO hX hr hlk htab hl => ?_)
  have hx := F.1
  have hb := F.2.1
  have F : CallFix p m c cL_block 7 s args gw RL := F
  have hown := F.2.2.2.1
  have hl : lv_has ls 7 [(0, .ref (ad 0)), (1, .int a1), (2, .int a2), (3, .int a3), (4, .int a4), (5, .ref ao)] := hl
  have hK3 := ty4_3 hK
  have hS : va_S (aL ad ao) s.heap s.heap [] := va_S.rf
  refine lv_aload hx hb d_L_block_0 (lv_at hl 5 rfl) ?_
  refine lv_iconst (v := 0) hx hb d_L_block_2 rfl ?_
  refine lv_aload_n hx hb d_L_block_3 rfl (lv_at hl 0 rfl) ?_
  refine lv_iload_n hx hb d_L_block_4 rfl (lv_at hl 1 rfl) ?_
  refine lv_iload_n hx hb d_L_block_5 rfl (lv_at hl 2 rfl) ?_
  refine lv_iload_n hx hb d_L_block_6 rfl (lv_at hl 3 rfl) ?_
  refine lv_iload hx hb d_L_block_7 (lv_at hl 4 rfl) ?_
  have hrun := xt_runV (ls := ls) (H := s.heap) (locs := []) (cells := 0) (slots := 0) (rest := [.int 0, .ref ao]) (st0 := [.int a4, .int a3, .int a2, .int a1, .ref (ad 0), .int 0, .ref ao]) (below := below) (meth := meth) (e := e) (R := rm1_ 8 136) F hT (uE_block l hfl G c3 ad N M a1 a2 a3 a4 3 hf) ⟨okX.blind, va_recv hK3 hP rfl (wd_at sX_0), okX.at (As := [.ref (ad 0), .int a1, .int a2, .int a3, .int a4]) hT hK3 hP hX (fun _ _ => rfl)⟩ wl_L_46 wi_E_block we_E_block wn_E wc_E_block ck_E_block ⟨by decide, by decide⟩ ⟨by decide, by decide⟩ hl.1 (As := [.int a1, .int a2, .int a3, .int a4]) rfl (Nat.le_of_ble_eq_true rfl) d_L_block_9
  refine xt_catch2 (C1 := "java/util/NoSuchElementException") (C2 := "java/lang/IllegalStateException") hown hrun htab (by decide) (by decide) (hT.1 _ wq_L_13 _) hX.2.2.2.2.2 (by decide) (by decide) (hT.1 _ wq_L_49 _) (va_Nw.use rfl (hT.2.2 _ (List.mem_of_getElem? (i := 2) rfl))) (fun x H1 hk1 hk2 => ?_)
  refine lv_astore (lv' := [(6, .ref x), (0, .ref (ad 0)), (1, .int a1), (2, .int a2), (3, .int a3), (4, .int a4), (5, .ref ao)]) hx hb d_L_block_28 hl (by decide) rfl (fun ls hl => ?_)
  refine lv_iconst (v := 2) hx hb d_L_block_30 rfl ?_
  have hP1 := xo_wd hP hk1
  have hO1 := xo_one hO (hk1 ao (xo_lt hO))
  have hS1 : va_S (aL ad ao) s.heap H1 [] := ⟨hk2, fun q hq _ => hk1 q hq, fun _ h => by cases h⟩
  exact xo_ret hx hb hr hlk hP1 hO1 hS1 ⟨by decide, by decide⟩ d_L_block_31
set_option maxHeartbeats 4000000 in
set_option maxRecDepth 100000 in
theorem hL_seat (l : Launch) (N : Nat) (G : va_G) (c3 : ClassId × ClassId × ClassId) (cL : ClassId) (ad : Nat → Nat) (hd : adI SX ad) (ao : Nat) (ha : ¬ adA SX ad ao) (M : Mem) (o : Nat → Int64) (a1 : Int32) (r : Int32) (M' : Mem) (hf : fE_seat a1 M = some (r, M')) : LMet l yL_seat cL_seat 4 [((0), (9), (12), (13)), ((0), (9), (15), (49))] (rm1_ 8 170) N G c3 cL ad ao M o [.ref (ad 0), .int a1, .ref ao] 0 M' (vp_updL o 0 r.toInt64) := by
  refine LMet.of (by decide +kernel) (Nat.le_of_ble_eq_true rfl) (fun p e s m args below meth c ls F hT hK hP hO hX hr hlk htab hl => ?_)
  have hx := F.1
  have hb := F.2.1
  have F : CallFix p m c cL_seat 4 s args gw RL := F
  have hown := F.2.2.2.1
  have hl : lv_has ls 4 [(0, .ref (ad 0)), (1, .int a1), (2, .ref ao)] := hl
  have hK3 := ty4_3 hK
  have hS : va_S (aL ad ao) s.heap s.heap [] := va_S.rf
  refine lv_aload_n hx hb d_L_seat_0 rfl (lv_at hl 2 rfl) ?_
  refine lv_iconst (v := 0) hx hb d_L_seat_1 rfl ?_
  refine lv_aload_n hx hb d_L_seat_2 rfl (lv_at hl 0 rfl) ?_
  refine lv_iload_n hx hb d_L_seat_3 rfl (lv_at hl 1 rfl) ?_
  refine xc_wv (rest := [.int 0, .ref ao]) F hT hK3 hP hS (fun _ h => Or.inl h) (tE_seat l G c3 ad hd M a1 r M' hf) sX_0 rfl wl_L_51 wi_E_seat we_E_seat wn_E wc_E_seat ck_E_seat ⟨rfl, rfl⟩ ⟨by decide, by decide⟩ ⟨Nat.zero_le _, Nat.zero_le _⟩ hl.1 rfl (Nat.le_of_ble_eq_true rfl) d_L_seat_4 (fun H locs hP hS hkp => ?_)
  have hO := xo_one hO (hkp ao (xo_lt hO) ha)
  refine lv_i2l hx hb d_L_seat_7 rfl ?_
  refine xo_last hx hb hd ha (fun _ h => h) hK hP hO hS d_L_seat_8 (fun H locs hP hO hS => ?_)
  refine lv_goto (tgt := 18) hx hb d_L_seat_9 rfl ?_
  refine lv_iconst (v := 0) hx hb d_L_seat_18 rfl ?_
  exact xo_ret hx hb hr hlk hP hO hS ⟨Nat.zero_le _, Nat.zero_le _⟩ d_L_seat_19
set_option maxHeartbeats 4000000 in
set_option maxRecDepth 100000 in
theorem hL_seat_x1 (l : Launch) (hfl : l.flags = flags0) (N : Nat) (G : va_G) (c3 : ClassId × ClassId × ClassId) (cL : ClassId) (ad : Nat → Nat) (hd : adI SX ad) (ao : Nat) (ha : ¬ adA SX ad ao) (M : Mem) (o : Nat → Int64) (a1 : Int32) (hf : kE_seat a1 M = some 1) : LMet l yL_seat cL_seat 4 [((0), (9), (12), (13)), ((0), (9), (15), (49))] (rm1_ 8 170) N G c3 cL ad ao M o [.ref (ad 0), .int a1, .ref ao] 1 M o := by
  refine LMet.of (by decide +kernel) (Nat.le_of_ble_eq_true rfl) (fun p e s m args below meth c ls F hT hK hP hO hX hr hlk htab hl => ?_)
  have hx := F.1
  have hb := F.2.1
  have F : CallFix p m c cL_seat 4 s args gw RL := F
  have hown := F.2.2.2.1
  have hl : lv_has ls 4 [(0, .ref (ad 0)), (1, .int a1), (2, .ref ao)] := hl
  have hK3 := ty4_3 hK
  have hS : va_S (aL ad ao) s.heap s.heap [] := va_S.rf
  refine lv_aload_n hx hb d_L_seat_0 rfl (lv_at hl 2 rfl) ?_
  refine lv_iconst (v := 0) hx hb d_L_seat_1 rfl ?_
  refine lv_aload_n hx hb d_L_seat_2 rfl (lv_at hl 0 rfl) ?_
  refine lv_iload_n hx hb d_L_seat_3 rfl (lv_at hl 1 rfl) ?_
  have hrun := xt_runV (ls := ls) (H := s.heap) (locs := []) (cells := 0) (slots := 0) (rest := [.int 0, .ref ao]) (st0 := [.int a1, .ref (ad 0), .int 0, .ref ao]) (below := below) (meth := meth) (e := e) (R := rm1_ 8 170) F hT (uE_seat l hfl G c3 ad N M a1 1 hf) ⟨okX.blind, va_recv hK3 hP rfl (wd_at sX_0), okX.at (As := [.ref (ad 0), .int a1]) hT hK3 hP hX (fun _ _ => rfl)⟩ wl_L_51 wi_E_seat we_E_seat wn_E wc_E_seat ck_E_seat ⟨by decide, by decide⟩ ⟨by decide, by decide⟩ hl.1 (As := [.int a1]) rfl (Nat.le_of_ble_eq_true rfl) d_L_seat_4
  refine xt_catch1 (C1 := "java/util/NoSuchElementException") hown hrun htab (by decide) (by decide) (hT.1 _ wq_L_13 _) (va_Nw.use rfl (hT.2.2 _ (List.mem_of_getElem? (i := 0) rfl))) (fun x H1 hk1 hk2 => ?_)
  refine lv_astore_n (lv' := [(3, .ref x), (0, .ref (ad 0)), (1, .int a1), (2, .ref ao)]) hx hb d_L_seat_12 rfl hl (by decide) rfl (fun ls hl => ?_)
  refine lv_iconst (v := 1) hx hb d_L_seat_13 rfl ?_
  have hP1 := xo_wd hP hk1
  have hO1 := xo_one hO (hk1 ao (xo_lt hO))
  have hS1 : va_S (aL ad ao) s.heap H1 [] := ⟨hk2, fun q hq _ => hk1 q hq, fun _ h => by cases h⟩
  exact xo_ret hx hb hr hlk hP1 hO1 hS1 ⟨by decide, by decide⟩ d_L_seat_14
set_option maxHeartbeats 4000000 in
set_option maxRecDepth 100000 in
theorem hL_seat_x3 (l : Launch) (hfl : l.flags = flags0) (N : Nat) (G : va_G) (c3 : ClassId × ClassId × ClassId) (cL : ClassId) (ad : Nat → Nat) (hd : adI SX ad) (ao : Nat) (ha : ¬ adA SX ad ao) (M : Mem) (o : Nat → Int64) (a1 : Int32) (hf : kE_seat a1 M = some 3) : LMet l yL_seat cL_seat 4 [((0), (9), (12), (13)), ((0), (9), (15), (49))] (rm1_ 8 170) N G c3 cL ad ao M o [.ref (ad 0), .int a1, .ref ao] 2 M o := by
  refine LMet.of (by decide +kernel) (Nat.le_of_ble_eq_true rfl) (fun p e s m args below meth c ls F hT hK hP hO hX hr hlk htab hl => ?_)
  have hx := F.1
  have hb := F.2.1
  have F : CallFix p m c cL_seat 4 s args gw RL := F
  have hown := F.2.2.2.1
  have hl : lv_has ls 4 [(0, .ref (ad 0)), (1, .int a1), (2, .ref ao)] := hl
  have hK3 := ty4_3 hK
  have hS : va_S (aL ad ao) s.heap s.heap [] := va_S.rf
  refine lv_aload_n hx hb d_L_seat_0 rfl (lv_at hl 2 rfl) ?_
  refine lv_iconst (v := 0) hx hb d_L_seat_1 rfl ?_
  refine lv_aload_n hx hb d_L_seat_2 rfl (lv_at hl 0 rfl) ?_
  refine lv_iload_n hx hb d_L_seat_3 rfl (lv_at hl 1 rfl) ?_
  have hrun := xt_runV (ls := ls) (H := s.heap) (locs := []) (cells := 0) (slots := 0) (rest := [.int 0, .ref ao]) (st0 := [.int a1, .ref (ad 0), .int 0, .ref ao]) (below := below) (meth := meth) (e := e) (R := rm1_ 8 170) F hT (uE_seat l hfl G c3 ad N M a1 3 hf) ⟨okX.blind, va_recv hK3 hP rfl (wd_at sX_0), okX.at (As := [.ref (ad 0), .int a1]) hT hK3 hP hX (fun _ _ => rfl)⟩ wl_L_51 wi_E_seat we_E_seat wn_E wc_E_seat ck_E_seat ⟨by decide, by decide⟩ ⟨by decide, by decide⟩ hl.1 (As := [.int a1]) rfl (Nat.le_of_ble_eq_true rfl) d_L_seat_4
  refine xt_catch2 (C1 := "java/util/NoSuchElementException") (C2 := "java/lang/IllegalStateException") hown hrun htab (by decide) (by decide) (hT.1 _ wq_L_13 _) hX.2.2.2.2.2 (by decide) (by decide) (hT.1 _ wq_L_49 _) (va_Nw.use rfl (hT.2.2 _ (List.mem_of_getElem? (i := 2) rfl))) (fun x H1 hk1 hk2 => ?_)
  refine lv_astore_n (lv' := [(3, .ref x), (0, .ref (ad 0)), (1, .int a1), (2, .ref ao)]) hx hb d_L_seat_15 rfl hl (by decide) rfl (fun ls hl => ?_)
  refine lv_iconst (v := 2) hx hb d_L_seat_16 rfl ?_
  have hP1 := xo_wd hP hk1
  have hO1 := xo_one hO (hk1 ao (xo_lt hO))
  have hS1 : va_S (aL ad ao) s.heap H1 [] := ⟨hk2, fun q hq _ => hk1 q hq, fun _ h => by cases h⟩
  exact xo_ret hx hb hr hlk hP1 hO1 hS1 ⟨by decide, by decide⟩ d_L_seat_17
set_option maxHeartbeats 4000000 in
set_option maxRecDepth 100000 in
theorem hL_leave (l : Launch) (N : Nat) (G : va_G) (c3 : ClassId × ClassId × ClassId) (cL : ClassId) (ad : Nat → Nat) (hd : adI SX ad) (ao : Nat) (ha : ¬ adA SX ad ao) (M : Mem) (o : Nat → Int64) (a1 a2 : Int32) (r : Int32) (M' : Mem) (hf : fE_leave a1 a2 M = some (r, M')) : LMet l yL_leave cL_leave 5 [((0), (10), (13), (13))] (rm1_ 8 133) N G c3 cL ad ao M o [.ref (ad 0), .int a1, .int a2, .ref ao] 0 M' (vp_updL o 0 r.toInt64) := by
  refine LMet.of (by decide +kernel) (Nat.le_of_ble_eq_true rfl) (fun p e s m args below meth c ls F hT hK hP hO hX hr hlk htab hl => ?_)
  have hx := F.1
  have hb := F.2.1
  have F : CallFix p m c cL_leave 5 s args gw RL := F
  have hown := F.2.2.2.1
  have hl : lv_has ls 5 [(0, .ref (ad 0)), (1, .int a1), (2, .int a2), (3, .ref ao)] := hl
  have hK3 := ty4_3 hK
  have hS : va_S (aL ad ao) s.heap s.heap [] := va_S.rf
  refine lv_aload_n hx hb d_L_leave_0 rfl (lv_at hl 3 rfl) ?_
  refine lv_iconst (v := 0) hx hb d_L_leave_1 rfl ?_
  refine lv_aload_n hx hb d_L_leave_2 rfl (lv_at hl 0 rfl) ?_
  refine lv_iload_n hx hb d_L_leave_3 rfl (lv_at hl 1 rfl) ?_
  refine lv_iload_n hx hb d_L_leave_4 rfl (lv_at hl 2 rfl) ?_
  refine xc_wv (rest := [.int 0, .ref ao]) F hT hK3 hP hS (fun _ h => Or.inl h) (tE_leave l G c3 ad hd M a1 a2 r M' hf) sX_0 rfl wl_L_54 wi_E_leave we_E_leave wn_E wc_E_leave ck_E_leave ⟨rfl, rfl⟩ ⟨by decide, by decide⟩ ⟨Nat.zero_le _, Nat.zero_le _⟩ hl.1 rfl (Nat.le_of_ble_eq_true rfl) d_L_leave_5 (fun H locs hP hS hkp => ?_)
  have hO := xo_one hO (hkp ao (xo_lt hO) ha)
  refine lv_i2l hx hb d_L_leave_8 rfl ?_
  refine xo_last hx hb hd ha (fun _ h => h) hK hP hO hS d_L_leave_9 (fun H locs hP hO hS => ?_)
  refine lv_goto (tgt := 17) hx hb d_L_leave_10 rfl ?_
  refine lv_iconst (v := 0) hx hb d_L_leave_17 rfl ?_
  exact xo_ret hx hb hr hlk hP hO hS ⟨Nat.zero_le _, Nat.zero_le _⟩ d_L_leave_18
set_option maxHeartbeats 4000000 in
set_option maxRecDepth 100000 in
theorem hL_leave_x1 (l : Launch) (hfl : l.flags = flags0) (N : Nat) (G : va_G) (c3 : ClassId × ClassId × ClassId) (cL : ClassId) (ad : Nat → Nat) (hd : adI SX ad) (ao : Nat) (ha : ¬ adA SX ad ao) (M : Mem) (o : Nat → Int64) (a1 a2 : Int32) (hf : kE_leave a1 a2 M = some 1) : LMet l yL_leave cL_leave 5 [((0), (10), (13), (13))] (rm1_ 8 133) N G c3 cL ad ao M o [.ref (ad 0), .int a1, .int a2, .ref ao] 1 M o := by
  refine LMet.of (by decide +kernel) (Nat.le_of_ble_eq_true rfl) (fun p e s m args below meth c ls F hT hK hP hO hX hr hlk htab hl => ?_)
  have hx := F.1
  have hb := F.2.1
  have F : CallFix p m c cL_leave 5 s args gw RL := F
  have hown := F.2.2.2.1
  have hl : lv_has ls 5 [(0, .ref (ad 0)), (1, .int a1), (2, .int a2), (3, .ref ao)] := hl
  have hK3 := ty4_3 hK
  have hS : va_S (aL ad ao) s.heap s.heap [] := va_S.rf
  refine lv_aload_n hx hb d_L_leave_0 rfl (lv_at hl 3 rfl) ?_
  refine lv_iconst (v := 0) hx hb d_L_leave_1 rfl ?_
  refine lv_aload_n hx hb d_L_leave_2 rfl (lv_at hl 0 rfl) ?_
  refine lv_iload_n hx hb d_L_leave_3 rfl (lv_at hl 1 rfl) ?_
  refine lv_iload_n hx hb d_L_leave_4 rfl (lv_at hl 2 rfl) ?_
  have hrun := xt_runV (ls := ls) (H := s.heap) (locs := []) (cells := 0) (slots := 0) (rest := [.int 0, .ref ao]) (st0 := [.int a2, .int a1, .ref (ad 0), .int 0, .ref ao]) (below := below) (meth := meth) (e := e) (R := rm1_ 8 133) F hT (uE_leave l hfl G c3 ad N M a1 a2 1 hf) ⟨okX.blind, va_recv hK3 hP rfl (wd_at sX_0), okX.at (As := [.ref (ad 0), .int a1, .int a2]) hT hK3 hP hX (fun _ _ => rfl)⟩ wl_L_54 wi_E_leave we_E_leave wn_E wc_E_leave ck_E_leave ⟨by decide, by decide⟩ ⟨by decide, by decide⟩ hl.1 (As := [.int a1, .int a2]) rfl (Nat.le_of_ble_eq_true rfl) d_L_leave_5
  refine xt_catch1 (C1 := "java/util/NoSuchElementException") hown hrun htab (by decide) (by decide) (hT.1 _ wq_L_13 _) (va_Nw.use rfl (hT.2.2 _ (List.mem_of_getElem? (i := 0) rfl))) (fun x H1 hk1 hk2 => ?_)
  refine lv_astore (lv' := [(4, .ref x), (0, .ref (ad 0)), (1, .int a1), (2, .int a2), (3, .ref ao)]) hx hb d_L_leave_13 hl (by decide) rfl (fun ls hl => ?_)
  refine lv_iconst (v := 1) hx hb d_L_leave_15 rfl ?_
  have hP1 := xo_wd hP hk1
  have hO1 := xo_one hO (hk1 ao (xo_lt hO))
  have hS1 : va_S (aL ad ao) s.heap H1 [] := ⟨hk2, fun q hq _ => hk1 q hq, fun _ h => by cases h⟩
  exact xo_ret hx hb hr hlk hP1 hO1 hS1 ⟨by decide, by decide⟩ d_L_leave_16
set_option maxHeartbeats 4000000 in
set_option maxRecDepth 100000 in
theorem hL_where (l : Launch) (N : Nat) (G : va_G) (c3 : ClassId × ClassId × ClassId) (cL : ClassId) (ad : Nat → Nat) (hd : adI SX ad) (ao : Nat) (ha : ¬ adA SX ad ao) (M : Mem) (o : Nat → Int64) (a1 a2 : Int32) (r : Int32) (hf : fE_where a1 a2 M = some r) : LMet l yL_where cL_where 5 [((0), (10), (13), (13))] (rm1_ 8 132) N G c3 cL ad ao M o [.ref (ad 0), .int a1, .int a2, .ref ao] 0 M (vp_updL o 0 r.toInt64) := by
  refine LMet.of (by decide +kernel) (Nat.le_of_ble_eq_true rfl) (fun p e s m args below meth c ls F hT hK hP hO hX hr hlk htab hl => ?_)
  have hx := F.1
  have hb := F.2.1
  have F : CallFix p m c cL_where 5 s args gw RL := F
  have hown := F.2.2.2.1
  have hl : lv_has ls 5 [(0, .ref (ad 0)), (1, .int a1), (2, .int a2), (3, .ref ao)] := hl
  have hK3 := ty4_3 hK
  have hS : va_S (aL ad ao) s.heap s.heap [] := va_S.rf
  refine lv_aload_n hx hb d_L_where_0 rfl (lv_at hl 3 rfl) ?_
  refine lv_iconst (v := 0) hx hb d_L_where_1 rfl ?_
  refine lv_aload_n hx hb d_L_where_2 rfl (lv_at hl 0 rfl) ?_
  refine lv_iload_n hx hb d_L_where_3 rfl (lv_at hl 1 rfl) ?_
  refine lv_iload_n hx hb d_L_where_4 rfl (lv_at hl 2 rfl) ?_
  refine xc_rv (rest := [.int 0, .ref ao]) F hT hK3 hP (tE_where l G c3 ad M a1 a2 r hf) sX_0 rfl wl_L_57 wi_E_where we_E_where wn_E wc_E_where ck_E_where ⟨rfl, rfl⟩ ⟨by decide, by decide⟩ ⟨Nat.zero_le _, Nat.zero_le _⟩ hl.1 rfl (Nat.le_of_ble_eq_true rfl) d_L_where_5 ?_
  refine lv_i2l hx hb d_L_where_8 rfl ?_
  refine xo_last hx hb hd ha (fun _ h => h) hK hP hO hS d_L_where_9 (fun H locs hP hO hS => ?_)
  refine lv_goto (tgt := 17) hx hb d_L_where_10 rfl ?_
  refine lv_iconst (v := 0) hx hb d_L_where_17 rfl ?_
  exact xo_ret hx hb hr hlk hP hO hS ⟨Nat.zero_le _, Nat.zero_le _⟩ d_L_where_18
set_option maxHeartbeats 4000000 in
set_option maxRecDepth 100000 in
theorem hL_where_x1 (l : Launch) (hfl : l.flags = flags0) (N : Nat) (G : va_G) (c3 : ClassId × ClassId × ClassId) (cL : ClassId) (ad : Nat → Nat) (hd : adI SX ad) (ao : Nat) (ha : ¬ adA SX ad ao) (M : Mem) (o : Nat → Int64) (a1 a2 : Int32) (hf : kE_where a1 a2 M = some 1) : LMet l yL_where cL_where 5 [((0), (10), (13), (13))] (rm1_ 8 132) N G c3 cL ad ao M o [.ref (ad 0), .int a1, .int a2, .ref ao] 1 M o := by
  refine LMet.of (by decide +kernel) (Nat.le_of_ble_eq_true rfl) (fun p e s m args below meth c ls F hT hK hP hO hX hr hlk htab hl => ?_)
  have hx := F.1
  have hb := F.2.1
  have F : CallFix p m c cL_where 5 s args gw RL := F
  have hown := F.2.2.2.1
  have hl : lv_has ls 5 [(0, .ref (ad 0)), (1, .int a1), (2, .int a2), (3, .ref ao)] := hl
  have hK3 := ty4_3 hK
  have hS : va_S (aL ad ao) s.heap s.heap [] := va_S.rf
  refine lv_aload_n hx hb d_L_where_0 rfl (lv_at hl 3 rfl) ?_
  refine lv_iconst (v := 0) hx hb d_L_where_1 rfl ?_
  refine lv_aload_n hx hb d_L_where_2 rfl (lv_at hl 0 rfl) ?_
  refine lv_iload_n hx hb d_L_where_3 rfl (lv_at hl 1 rfl) ?_
  refine lv_iload_n hx hb d_L_where_4 rfl (lv_at hl 2 rfl) ?_
  have hrun := xt_runV (ls := ls) (H := s.heap) (locs := []) (cells := 0) (slots := 0) (rest := [.int 0, .ref ao]) (st0 := [.int a2, .int a1, .ref (ad 0), .int 0, .ref ao]) (below := below) (meth := meth) (e := e) (R := rm1_ 8 132) F hT (uE_where l hfl G c3 ad N M a1 a2 1 hf) ⟨okX.blind, va_recv hK3 hP rfl (wd_at sX_0), okX.at (As := [.ref (ad 0), .int a1, .int a2]) hT hK3 hP hX (fun _ _ => rfl)⟩ wl_L_57 wi_E_where we_E_where wn_E wc_E_where ck_E_where ⟨by decide, by decide⟩ ⟨by decide, by decide⟩ hl.1 (As := [.int a1, .int a2]) rfl (Nat.le_of_ble_eq_true rfl) d_L_where_5
  refine xt_catch1 (C1 := "java/util/NoSuchElementException") hown hrun htab (by decide) (by decide) (hT.1 _ wq_L_13 _) (va_Nw.use rfl (hT.2.2 _ (List.mem_of_getElem? (i := 0) rfl))) (fun x H1 hk1 hk2 => ?_)
  refine lv_astore (lv' := [(4, .ref x), (0, .ref (ad 0)), (1, .int a1), (2, .int a2), (3, .ref ao)]) hx hb d_L_where_13 hl (by decide) rfl (fun ls hl => ?_)
  refine lv_iconst (v := 1) hx hb d_L_where_15 rfl ?_
  have hP1 := xo_wd hP hk1
  have hO1 := xo_one hO (hk1 ao (xo_lt hO))
  have hS1 : va_S (aL ad ao) s.heap H1 [] := ⟨hk2, fun q hq _ => hk1 q hq, fun _ h => by cases h⟩
  exact xo_ret hx hb hr hlk hP1 hO1 hS1 ⟨by decide, by decide⟩ d_L_where_16
set_option maxHeartbeats 4000000 in
set_option maxRecDepth 100000 in
theorem hL_who (l : Launch) (N : Nat) (G : va_G) (c3 : ClassId × ClassId × ClassId) (cL : ClassId) (ad : Nat → Nat) (hd : adI SX ad) (ao : Nat) (ha : ¬ adA SX ad ao) (M : Mem) (o : Nat → Int64) (a1 a2 a3 a4 : Int32) (r : Int32) (hf : fE_who a1 a2 a3 a4 M = some r) : LMet l yL_who cL_who 7 [((0), (14), (17), (13))] (rm1_ 8 134) N G c3 cL ad ao M o [.ref (ad 0), .int a1, .int a2, .int a3, .int a4, .ref ao] 0 M (vp_updL o 0 r.toInt64) := by
  refine LMet.of (by decide +kernel) (Nat.le_of_ble_eq_true rfl) (fun p e s m args below meth c ls F hT hK hP hO hX hr hlk htab hl => ?_)
  have hx := F.1
  have hb := F.2.1
  have F : CallFix p m c cL_who 7 s args gw RL := F
  have hown := F.2.2.2.1
  have hl : lv_has ls 7 [(0, .ref (ad 0)), (1, .int a1), (2, .int a2), (3, .int a3), (4, .int a4), (5, .ref ao)] := hl
  have hK3 := ty4_3 hK
  have hS : va_S (aL ad ao) s.heap s.heap [] := va_S.rf
  refine lv_aload hx hb d_L_who_0 (lv_at hl 5 rfl) ?_
  refine lv_iconst (v := 0) hx hb d_L_who_2 rfl ?_
  refine lv_aload_n hx hb d_L_who_3 rfl (lv_at hl 0 rfl) ?_
  refine lv_iload_n hx hb d_L_who_4 rfl (lv_at hl 1 rfl) ?_
  refine lv_iload_n hx hb d_L_who_5 rfl (lv_at hl 2 rfl) ?_
  refine lv_iload_n hx hb d_L_who_6 rfl (lv_at hl 3 rfl) ?_
  refine lv_iload hx hb d_L_who_7 (lv_at hl 4 rfl) ?_
  refine xc_rv (rest := [.int 0, .ref ao]) F hT hK3 hP (tE_who l G c3 ad M a1 a2 a3 a4 r hf) sX_0 rfl wl_L_60 wi_E_who we_E_who wn_E wc_E_who ck_E_who ⟨rfl, rfl⟩ ⟨by decide, by decide⟩ ⟨Nat.zero_le _, Nat.zero_le _⟩ hl.1 rfl (Nat.le_of_ble_eq_true rfl) d_L_who_9 ?_
  refine lv_i2l hx hb d_L_who_12 rfl ?_
  refine xo_last hx hb hd ha (fun _ h => h) hK hP hO hS d_L_who_13 (fun H locs hP hO hS => ?_)
  refine lv_goto (tgt := 21) hx hb d_L_who_14 rfl ?_
  refine lv_iconst (v := 0) hx hb d_L_who_21 rfl ?_
  exact xo_ret hx hb hr hlk hP hO hS ⟨Nat.zero_le _, Nat.zero_le _⟩ d_L_who_22
set_option maxHeartbeats 4000000 in
set_option maxRecDepth 100000 in
theorem hL_who_x1 (l : Launch) (hfl : l.flags = flags0) (N : Nat) (G : va_G) (c3 : ClassId × ClassId × ClassId) (cL : ClassId) (ad : Nat → Nat) (hd : adI SX ad) (ao : Nat) (ha : ¬ adA SX ad ao) (M : Mem) (o : Nat → Int64) (a1 a2 a3 a4 : Int32) (hf : kE_who a1 a2 a3 a4 M = some 1) : LMet l yL_who cL_who 7 [((0), (14), (17), (13))] (rm1_ 8 134) N G c3 cL ad ao M o [.ref (ad 0), .int a1, .int a2, .int a3, .int a4, .ref ao] 1 M o := by
  refine LMet.of (by decide +kernel) (Nat.le_of_ble_eq_true rfl) (fun p e s m args below meth c ls F hT hK hP hO hX hr hlk htab hl => ?_)
  have hx := F.1
  have hb := F.2.1
  have F : CallFix p m c cL_who 7 s args gw RL := F
  have hown := F.2.2.2.1
  have hl : lv_has ls 7 [(0, .ref (ad 0)), (1, .int a1), (2, .int a2), (3, .int a3), (4, .int a4), (5, .ref ao)] := hl
  have hK3 := ty4_3 hK
  have hS : va_S (aL ad ao) s.heap s.heap [] := va_S.rf
  refine lv_aload hx hb d_L_who_0 (lv_at hl 5 rfl) ?_
  refine lv_iconst (v := 0) hx hb d_L_who_2 rfl ?_
  refine lv_aload_n hx hb d_L_who_3 rfl (lv_at hl 0 rfl) ?_
  refine lv_iload_n hx hb d_L_who_4 rfl (lv_at hl 1 rfl) ?_
  refine lv_iload_n hx hb d_L_who_5 rfl (lv_at hl 2 rfl) ?_
  refine lv_iload_n hx hb d_L_who_6 rfl (lv_at hl 3 rfl) ?_
  refine lv_iload hx hb d_L_who_7 (lv_at hl 4 rfl) ?_
  have hrun := xt_runV (ls := ls) (H := s.heap) (locs := []) (cells := 0) (slots := 0) (rest := [.int 0, .ref ao]) (st0 := [.int a4, .int a3, .int a2, .int a1, .ref (ad 0), .int 0, .ref ao]) (below := below) (meth := meth) (e := e) (R := rm1_ 8 134) F hT (uE_who l hfl G c3 ad N M a1 a2 a3 a4 1 hf) ⟨okX.blind, va_recv hK3 hP rfl (wd_at sX_0), okX.at (As := [.ref (ad 0), .int a1, .int a2, .int a3, .int a4]) hT hK3 hP hX (fun _ _ => rfl)⟩ wl_L_60 wi_E_who we_E_who wn_E wc_E_who ck_E_who ⟨by decide, by decide⟩ ⟨by decide, by decide⟩ hl.1 (As := [.int a1, .int a2, .int a3, .int a4]) rfl (Nat.le_of_ble_eq_true rfl) d_L_who_9
  refine xt_catch1 (C1 := "java/util/NoSuchElementException") hown hrun htab (by decide) (by decide) (hT.1 _ wq_L_13 _) (va_Nw.use rfl (hT.2.2 _ (List.mem_of_getElem? (i := 0) rfl))) (fun x H1 hk1 hk2 => ?_)
  refine lv_astore (lv' := [(6, .ref x), (0, .ref (ad 0)), (1, .int a1), (2, .int a2), (3, .int a3), (4, .int a4), (5, .ref ao)]) hx hb d_L_who_17 hl (by decide) rfl (fun ls hl => ?_)
  refine lv_iconst (v := 1) hx hb d_L_who_19 rfl ?_
  have hP1 := xo_wd hP hk1
  have hO1 := xo_one hO (hk1 ao (xo_lt hO))
  have hS1 : va_S (aL ad ao) s.heap H1 [] := ⟨hk2, fun q hq _ => hk1 q hq, fun _ h => by cases h⟩
  exact xo_ret hx hb hr hlk hP1 hO1 hS1 ⟨by decide, by decide⟩ d_L_who_20
set_option maxHeartbeats 4000000 in
set_option maxRecDepth 100000 in
theorem hL_most (l : Launch) (N : Nat) (G : va_G) (c3 : ClassId × ClassId × ClassId) (cL : ClassId) (ad : Nat → Nat) (hd : adI SX ad) (ao : Nat) (ha : ¬ adA SX ad ao) (M : Mem) (o : Nat → Int64) (a1 a2 : Int32) (r : Int32) (M' : Mem) (hf : fE_most a1 a2 M = some (r, M')) : LMet l yL_most cL_most 5 [((0), (10), (13), (13)), ((0), (10), (17), (15))] (rm1_ 8 133) N G c3 cL ad ao M o [.ref (ad 0), .int a1, .int a2, .ref ao] 0 M' (vp_updL o 0 r.toInt64) := by
  refine LMet.of (by decide +kernel) (Nat.le_of_ble_eq_true rfl) (fun p e s m args below meth c ls F hT hK hP hO hX hr hlk htab hl => ?_)
  have hx := F.1
  have hb := F.2.1
  have F : CallFix p m c cL_most 5 s args gw RL := F
  have hown := F.2.2.2.1
  have hl : lv_has ls 5 [(0, .ref (ad 0)), (1, .int a1), (2, .int a2), (3, .ref ao)] := hl
  have hK3 := ty4_3 hK
  have hS : va_S (aL ad ao) s.heap s.heap [] := va_S.rf
  refine lv_aload_n hx hb d_L_most_0 rfl (lv_at hl 3 rfl) ?_
  refine lv_iconst (v := 0) hx hb d_L_most_1 rfl ?_
  refine lv_aload_n hx hb d_L_most_2 rfl (lv_at hl 0 rfl) ?_
  refine lv_iload_n hx hb d_L_most_3 rfl (lv_at hl 1 rfl) ?_
  refine lv_iload_n hx hb d_L_most_4 rfl (lv_at hl 2 rfl) ?_
  refine xc_wv (rest := [.int 0, .ref ao]) F hT hK3 hP hS (fun _ h => Or.inl h) (tE_most l G c3 ad hd M a1 a2 r M' hf) sX_0 rfl wl_L_64 wi_E_most we_E_most wn_E wc_E_most ck_E_most ⟨rfl, rfl⟩ ⟨by decide, by decide⟩ ⟨Nat.zero_le _, Nat.zero_le _⟩ hl.1 rfl (Nat.le_of_ble_eq_true rfl) d_L_most_5 (fun H locs hP hS hkp => ?_)
  have hO := xo_one hO (hkp ao (xo_lt hO) ha)
  refine lv_i2l hx hb d_L_most_8 rfl ?_
  refine xo_last hx hb hd ha (fun _ h => h) hK hP hO hS d_L_most_9 (fun H locs hP hO hS => ?_)
  refine lv_goto (tgt := 21) hx hb d_L_most_10 rfl ?_
  refine lv_iconst (v := 0) hx hb d_L_most_21 rfl ?_
  exact xo_ret hx hb hr hlk hP hO hS ⟨Nat.zero_le _, Nat.zero_le _⟩ d_L_most_22
set_option maxHeartbeats 4000000 in
set_option maxRecDepth 100000 in
theorem hL_most_x1 (l : Launch) (hfl : l.flags = flags0) (N : Nat) (G : va_G) (c3 : ClassId × ClassId × ClassId) (cL : ClassId) (ad : Nat → Nat) (hd : adI SX ad) (ao : Nat) (ha : ¬ adA SX ad ao) (M : Mem) (o : Nat → Int64) (a1 a2 : Int32) (hf : kE_most a1 a2 M = some 1) : LMet l yL_most cL_most 5 [((0), (10), (13), (13)), ((0), (10), (17), (15))] (rm1_ 8 133) N G c3 cL ad ao M o [.ref (ad 0), .int a1, .int a2, .ref ao] 1 M o := by
  refine LMet.of (by decide +kernel) (Nat.le_of_ble_eq_true rfl) (fun p e s m args below meth c ls F hT hK hP hO hX hr hlk htab hl => ?_)
  have hx := F.1
  have hb := F.2.1
  have F : CallFix p m c cL_most 5 s args gw RL := F
  have hown := F.2.2.2.1
  have hl : lv_has ls 5 [(0, .ref (ad 0)), (1, .int a1), (2, .int a2), (3, .ref ao)] := hl
  have hK3 := ty4_3 hK
  have hS : va_S (aL ad ao) s.heap s.heap [] := va_S.rf
  refine lv_aload_n hx hb d_L_most_0 rfl (lv_at hl 3 rfl) ?_
  refine lv_iconst (v := 0) hx hb d_L_most_1 rfl ?_
  refine lv_aload_n hx hb d_L_most_2 rfl (lv_at hl 0 rfl) ?_
  refine lv_iload_n hx hb d_L_most_3 rfl (lv_at hl 1 rfl) ?_
  refine lv_iload_n hx hb d_L_most_4 rfl (lv_at hl 2 rfl) ?_
  have hrun := xt_runV (ls := ls) (H := s.heap) (locs := []) (cells := 0) (slots := 0) (rest := [.int 0, .ref ao]) (st0 := [.int a2, .int a1, .ref (ad 0), .int 0, .ref ao]) (below := below) (meth := meth) (e := e) (R := rm1_ 8 133) F hT (uE_most l hfl G c3 ad N M a1 a2 1 hf) ⟨okX.blind, va_recv hK3 hP rfl (wd_at sX_0), okX.at (As := [.ref (ad 0), .int a1, .int a2]) hT hK3 hP hX (fun _ _ => rfl)⟩ wl_L_64 wi_E_most we_E_most wn_E wc_E_most ck_E_most ⟨by decide, by decide⟩ ⟨by decide, by decide⟩ hl.1 (As := [.int a1, .int a2]) rfl (Nat.le_of_ble_eq_true rfl) d_L_most_5
  refine xt_catch1 (C1 := "java/util/NoSuchElementException") hown hrun htab (by decide) (by decide) (hT.1 _ wq_L_13 _) (va_Nw.use rfl (hT.2.2 _ (List.mem_of_getElem? (i := 0) rfl))) (fun x H1 hk1 hk2 => ?_)
  refine lv_astore (lv' := [(4, .ref x), (0, .ref (ad 0)), (1, .int a1), (2, .int a2), (3, .ref ao)]) hx hb d_L_most_13 hl (by decide) rfl (fun ls hl => ?_)
  refine lv_iconst (v := 1) hx hb d_L_most_15 rfl ?_
  have hP1 := xo_wd hP hk1
  have hO1 := xo_one hO (hk1 ao (xo_lt hO))
  have hS1 : va_S (aL ad ao) s.heap H1 [] := ⟨hk2, fun q hq _ => hk1 q hq, fun _ h => by cases h⟩
  exact xo_ret hx hb hr hlk hP1 hO1 hS1 ⟨by decide, by decide⟩ d_L_most_16
set_option maxHeartbeats 4000000 in
set_option maxRecDepth 100000 in
theorem hL_most_x2 (l : Launch) (hfl : l.flags = flags0) (N : Nat) (G : va_G) (c3 : ClassId × ClassId × ClassId) (cL : ClassId) (ad : Nat → Nat) (hd : adI SX ad) (ao : Nat) (ha : ¬ adA SX ad ao) (M : Mem) (o : Nat → Int64) (a1 a2 : Int32) (hf : kE_most a1 a2 M = some 2) : LMet l yL_most cL_most 5 [((0), (10), (13), (13)), ((0), (10), (17), (15))] (rm1_ 8 133) N G c3 cL ad ao M o [.ref (ad 0), .int a1, .int a2, .ref ao] 2 M o := by
  refine LMet.of (by decide +kernel) (Nat.le_of_ble_eq_true rfl) (fun p e s m args below meth c ls F hT hK hP hO hX hr hlk htab hl => ?_)
  have hx := F.1
  have hb := F.2.1
  have F : CallFix p m c cL_most 5 s args gw RL := F
  have hown := F.2.2.2.1
  have hl : lv_has ls 5 [(0, .ref (ad 0)), (1, .int a1), (2, .int a2), (3, .ref ao)] := hl
  have hK3 := ty4_3 hK
  have hS : va_S (aL ad ao) s.heap s.heap [] := va_S.rf
  refine lv_aload_n hx hb d_L_most_0 rfl (lv_at hl 3 rfl) ?_
  refine lv_iconst (v := 0) hx hb d_L_most_1 rfl ?_
  refine lv_aload_n hx hb d_L_most_2 rfl (lv_at hl 0 rfl) ?_
  refine lv_iload_n hx hb d_L_most_3 rfl (lv_at hl 1 rfl) ?_
  refine lv_iload_n hx hb d_L_most_4 rfl (lv_at hl 2 rfl) ?_
  have hrun := xt_runV (ls := ls) (H := s.heap) (locs := []) (cells := 0) (slots := 0) (rest := [.int 0, .ref ao]) (st0 := [.int a2, .int a1, .ref (ad 0), .int 0, .ref ao]) (below := below) (meth := meth) (e := e) (R := rm1_ 8 133) F hT (uE_most l hfl G c3 ad N M a1 a2 2 hf) ⟨okX.blind, va_recv hK3 hP rfl (wd_at sX_0), okX.at (As := [.ref (ad 0), .int a1, .int a2]) hT hK3 hP hX (fun _ _ => rfl)⟩ wl_L_64 wi_E_most we_E_most wn_E wc_E_most ck_E_most ⟨by decide, by decide⟩ ⟨by decide, by decide⟩ hl.1 (As := [.int a1, .int a2]) rfl (Nat.le_of_ble_eq_true rfl) d_L_most_5
  refine xt_catch2 (C1 := "java/util/NoSuchElementException") (C2 := "java/lang/IllegalArgumentException") hown hrun htab (by decide) (by decide) (hT.1 _ wq_L_13 _) hX.2.2.2.2.1 (by decide) (by decide) (hT.1 _ wq_L_15 _) (va_Nw.use rfl (hT.2.2 _ (List.mem_of_getElem? (i := 1) rfl))) (fun x H1 hk1 hk2 => ?_)
  refine lv_astore (lv' := [(4, .ref x), (0, .ref (ad 0)), (1, .int a1), (2, .int a2), (3, .ref ao)]) hx hb d_L_most_17 hl (by decide) rfl (fun ls hl => ?_)
  refine lv_iconst (v := 2) hx hb d_L_most_19 rfl ?_
  have hP1 := xo_wd hP hk1
  have hO1 := xo_one hO (hk1 ao (xo_lt hO))
  have hS1 : va_S (aL ad ao) s.heap H1 [] := ⟨hk2, fun q hq _ => hk1 q hq, fun _ h => by cases h⟩
  exact xo_ret hx hb hr hlk hP1 hO1 hS1 ⟨by decide, by decide⟩ d_L_most_20
set_option maxHeartbeats 4000000 in
set_option maxRecDepth 100000 in
theorem hL_own (l : Launch) (N : Nat) (G : va_G) (c3 : ClassId × ClassId × ClassId) (cL : ClassId) (ad : Nat → Nat) (hd : adI SX ad) (ao : Nat) (ha : ¬ adA SX ad ao) (M : Mem) (o : Nat → Int64) (a1 a2 a3 : Int32) (r : Int32) (M' : Mem) (hf : fE_own a1 a2 a3 M = some (r, M')) : LMet l yL_own cL_own 6 [((0), (19), (22), (13))] (rm1_ 8 134) N G c3 cL ad ao M o [.ref (ad 0), .int a1, .int a2, .int a3, .ref ao] 0 M' (vp_updL o 0 (zl r)) := by
  refine LMet.of (by decide +kernel) (Nat.le_of_ble_eq_true rfl) (fun p e s m args below meth c ls F hT hK hP hO hX hr hlk htab hl => ?_)
  have hx := F.1
  have hb := F.2.1
  have F : CallFix p m c cL_own 6 s args gw RL := F
  have hown := F.2.2.2.1
  have hl : lv_has ls 6 [(0, .ref (ad 0)), (1, .int a1), (2, .int a2), (3, .int a3), (4, .ref ao)] := hl
  have hK3 := ty4_3 hK
  have hS : va_S (aL ad ao) s.heap s.heap [] := va_S.rf
  refine lv_aload hx hb d_L_own_0 (lv_at hl 4 rfl) ?_
  refine lv_iconst (v := 0) hx hb d_L_own_2 rfl ?_
  refine lv_aload_n hx hb d_L_own_3 rfl (lv_at hl 0 rfl) ?_
  refine lv_iload_n hx hb d_L_own_4 rfl (lv_at hl 1 rfl) ?_
  refine lv_iload_n hx hb d_L_own_5 rfl (lv_at hl 2 rfl) ?_
  refine lv_iload_n hx hb d_L_own_6 rfl (lv_at hl 3 rfl) ?_
  refine xc_wv (rest := [.int 0, .ref ao]) F hT hK3 hP hS (fun _ h => Or.inl h) (tE_own l G c3 ad hd M a1 a2 a3 r M' hf) sX_0 rfl wl_L_67 wi_E_own we_E_own wn_E wc_E_own ck_E_own ⟨rfl, rfl⟩ ⟨by decide, by decide⟩ ⟨Nat.zero_le _, Nat.zero_le _⟩ hl.1 rfl (Nat.le_of_ble_eq_true rfl) d_L_own_7 (fun H locs hP hS hkp => ?_)
  have hO := xo_one hO (hkp ao (xo_lt hO) ha)
  refine lv_if_eq (tgt := 17) hx hb d_L_own_10 rfl (fun hc => ?_) (fun hc => ?_)
  · have hz : zl r = 0 := if_pos hc
    rw [hz]
    refine lv_lconst (v := 0) hx hb d_L_own_17 rfl ?_
    refine xo_last hx hb hd ha (fun _ h => h) hK hP hO hS d_L_own_18 (fun H locs hP hO hS => ?_)
    refine lv_goto (tgt := 26) hx hb d_L_own_19 rfl ?_
    refine lv_iconst (v := 0) hx hb d_L_own_26 rfl ?_
    exact xo_ret hx hb hr hlk hP hO hS ⟨Nat.zero_le _, Nat.zero_le _⟩ d_L_own_27
  · have hz : zl r = 1 := if_neg hc
    rw [hz]
    refine lv_lconst (v := 1) hx hb d_L_own_13 rfl ?_
    refine lv_goto (tgt := 18) hx hb d_L_own_14 rfl ?_
    refine xo_last hx hb hd ha (fun _ h => h) hK hP hO hS d_L_own_18 (fun H locs hP hO hS => ?_)
    refine lv_goto (tgt := 26) hx hb d_L_own_19 rfl ?_
    refine lv_iconst (v := 0) hx hb d_L_own_26 rfl ?_
    exact xo_ret hx hb hr hlk hP hO hS ⟨Nat.zero_le _, Nat.zero_le _⟩ d_L_own_27
set_option maxHeartbeats 4000000 in
set_option maxRecDepth 100000 in
theorem hL_own_x1 (l : Launch) (hfl : l.flags = flags0) (N : Nat) (G : va_G) (c3 : ClassId × ClassId × ClassId) (cL : ClassId) (ad : Nat → Nat) (hd : adI SX ad) (ao : Nat) (ha : ¬ adA SX ad ao) (M : Mem) (o : Nat → Int64) (a1 a2 a3 : Int32) (hf : kE_own a1 a2 a3 M = some 1) : LMet l yL_own cL_own 6 [((0), (19), (22), (13))] (rm1_ 8 134) N G c3 cL ad ao M o [.ref (ad 0), .int a1, .int a2, .int a3, .ref ao] 1 M o := by
  refine LMet.of (by decide +kernel) (Nat.le_of_ble_eq_true rfl) (fun p e s m args below meth c ls F hT hK hP hO hX hr hlk htab hl => ?_)
  have hx := F.1
  have hb := F.2.1
  have F : CallFix p m c cL_own 6 s args gw RL := F
  have hown := F.2.2.2.1
  have hl : lv_has ls 6 [(0, .ref (ad 0)), (1, .int a1), (2, .int a2), (3, .int a3), (4, .ref ao)] := hl
  have hK3 := ty4_3 hK
  have hS : va_S (aL ad ao) s.heap s.heap [] := va_S.rf
  refine lv_aload hx hb d_L_own_0 (lv_at hl 4 rfl) ?_
  refine lv_iconst (v := 0) hx hb d_L_own_2 rfl ?_
  refine lv_aload_n hx hb d_L_own_3 rfl (lv_at hl 0 rfl) ?_
  refine lv_iload_n hx hb d_L_own_4 rfl (lv_at hl 1 rfl) ?_
  refine lv_iload_n hx hb d_L_own_5 rfl (lv_at hl 2 rfl) ?_
  refine lv_iload_n hx hb d_L_own_6 rfl (lv_at hl 3 rfl) ?_
  have hrun := xt_runV (ls := ls) (H := s.heap) (locs := []) (cells := 0) (slots := 0) (rest := [.int 0, .ref ao]) (st0 := [.int a3, .int a2, .int a1, .ref (ad 0), .int 0, .ref ao]) (below := below) (meth := meth) (e := e) (R := rm1_ 8 134) F hT (uE_own l hfl G c3 ad N M a1 a2 a3 1 hf) ⟨okX.blind, va_recv hK3 hP rfl (wd_at sX_0), okX.at (As := [.ref (ad 0), .int a1, .int a2, .int a3]) hT hK3 hP hX (fun _ _ => rfl)⟩ wl_L_67 wi_E_own we_E_own wn_E wc_E_own ck_E_own ⟨by decide, by decide⟩ ⟨by decide, by decide⟩ hl.1 (As := [.int a1, .int a2, .int a3]) rfl (Nat.le_of_ble_eq_true rfl) d_L_own_7
  refine xt_catch1 (C1 := "java/util/NoSuchElementException") hown hrun htab (by decide) (by decide) (hT.1 _ wq_L_13 _) (va_Nw.use rfl (hT.2.2 _ (List.mem_of_getElem? (i := 0) rfl))) (fun x H1 hk1 hk2 => ?_)
  refine lv_astore (lv' := [(5, .ref x), (0, .ref (ad 0)), (1, .int a1), (2, .int a2), (3, .int a3), (4, .ref ao)]) hx hb d_L_own_22 hl (by decide) rfl (fun ls hl => ?_)
  refine lv_iconst (v := 1) hx hb d_L_own_24 rfl ?_
  have hP1 := xo_wd hP hk1
  have hO1 := xo_one hO (hk1 ao (xo_lt hO))
  have hS1 : va_S (aL ad ao) s.heap H1 [] := ⟨hk2, fun q hq _ => hk1 q hq, fun _ h => by cases h⟩
  exact xo_ret hx hb hr hlk hP1 hO1 hS1 ⟨by decide, by decide⟩ d_L_own_25
set_option maxHeartbeats 4000000 in
set_option maxRecDepth 100000 in
theorem hL_watch (l : Launch) (N : Nat) (G : va_G) (c3 : ClassId × ClassId × ClassId) (cL : ClassId) (ad : Nat → Nat) (hd : adI SX ad) (ao : Nat) (ha : ¬ adA SX ad ao) (M : Mem) (o : Nat → Int64) (a1 : Int32) (r : Int32) (M' : Mem) (hf : fE_watch a1 M = some (r, M')) : LMet l yL_watch cL_watch 4 [((0), (16), (19), (13))] (rm1_ 8 131) N G c3 cL ad ao M o [.ref (ad 0), .int a1, .ref ao] 0 M' (vp_updL o 0 (zl r)) := by
  refine LMet.of (by decide +kernel) (Nat.le_of_ble_eq_true rfl) (fun p e s m args below meth c ls F hT hK hP hO hX hr hlk htab hl => ?_)
  have hx := F.1
  have hb := F.2.1
  have F : CallFix p m c cL_watch 4 s args gw RL := F
  have hown := F.2.2.2.1
  have hl : lv_has ls 4 [(0, .ref (ad 0)), (1, .int a1), (2, .ref ao)] := hl
  have hK3 := ty4_3 hK
  have hS : va_S (aL ad ao) s.heap s.heap [] := va_S.rf
  refine lv_aload_n hx hb d_L_watch_0 rfl (lv_at hl 2 rfl) ?_
  refine lv_iconst (v := 0) hx hb d_L_watch_1 rfl ?_
  refine lv_aload_n hx hb d_L_watch_2 rfl (lv_at hl 0 rfl) ?_
  refine lv_iload_n hx hb d_L_watch_3 rfl (lv_at hl 1 rfl) ?_
  refine xc_wv (rest := [.int 0, .ref ao]) F hT hK3 hP hS (fun _ h => Or.inl h) (tE_watch l G c3 ad hd M a1 r M' hf) sX_0 rfl wl_L_70 wi_E_watch we_E_watch wn_E wc_E_watch ck_E_watch ⟨rfl, rfl⟩ ⟨by decide, by decide⟩ ⟨Nat.zero_le _, Nat.zero_le _⟩ hl.1 rfl (Nat.le_of_ble_eq_true rfl) d_L_watch_4 (fun H locs hP hS hkp => ?_)
  have hO := xo_one hO (hkp ao (xo_lt hO) ha)
  refine lv_if_eq (tgt := 14) hx hb d_L_watch_7 rfl (fun hc => ?_) (fun hc => ?_)
  · have hz : zl r = 0 := if_pos hc
    rw [hz]
    refine lv_lconst (v := 0) hx hb d_L_watch_14 rfl ?_
    refine xo_last hx hb hd ha (fun _ h => h) hK hP hO hS d_L_watch_15 (fun H locs hP hO hS => ?_)
    refine lv_goto (tgt := 22) hx hb d_L_watch_16 rfl ?_
    refine lv_iconst (v := 0) hx hb d_L_watch_22 rfl ?_
    exact xo_ret hx hb hr hlk hP hO hS ⟨Nat.zero_le _, Nat.zero_le _⟩ d_L_watch_23
  · have hz : zl r = 1 := if_neg hc
    rw [hz]
    refine lv_lconst (v := 1) hx hb d_L_watch_10 rfl ?_
    refine lv_goto (tgt := 15) hx hb d_L_watch_11 rfl ?_
    refine xo_last hx hb hd ha (fun _ h => h) hK hP hO hS d_L_watch_15 (fun H locs hP hO hS => ?_)
    refine lv_goto (tgt := 22) hx hb d_L_watch_16 rfl ?_
    refine lv_iconst (v := 0) hx hb d_L_watch_22 rfl ?_
    exact xo_ret hx hb hr hlk hP hO hS ⟨Nat.zero_le _, Nat.zero_le _⟩ d_L_watch_23
set_option maxHeartbeats 4000000 in
set_option maxRecDepth 100000 in
theorem hL_watch_x1 (l : Launch) (hfl : l.flags = flags0) (N : Nat) (G : va_G) (c3 : ClassId × ClassId × ClassId) (cL : ClassId) (ad : Nat → Nat) (hd : adI SX ad) (ao : Nat) (ha : ¬ adA SX ad ao) (M : Mem) (o : Nat → Int64) (a1 : Int32) (hf : kE_watch a1 M = some 1) : LMet l yL_watch cL_watch 4 [((0), (16), (19), (13))] (rm1_ 8 131) N G c3 cL ad ao M o [.ref (ad 0), .int a1, .ref ao] 1 M o := by
  refine LMet.of (by decide +kernel) (Nat.le_of_ble_eq_true rfl) (fun p e s m args below meth c ls F hT hK hP hO hX hr hlk htab hl => ?_)
  have hx := F.1
  have hb := F.2.1
  have F : CallFix p m c cL_watch 4 s args gw RL := F
  have hown := F.2.2.2.1
  have hl : lv_has ls 4 [(0, .ref (ad 0)), (1, .int a1), (2, .ref ao)] := hl
  have hK3 := ty4_3 hK
  have hS : va_S (aL ad ao) s.heap s.heap [] := va_S.rf
  refine lv_aload_n hx hb d_L_watch_0 rfl (lv_at hl 2 rfl) ?_
  refine lv_iconst (v := 0) hx hb d_L_watch_1 rfl ?_
  refine lv_aload_n hx hb d_L_watch_2 rfl (lv_at hl 0 rfl) ?_
  refine lv_iload_n hx hb d_L_watch_3 rfl (lv_at hl 1 rfl) ?_
  have hrun := xt_runV (ls := ls) (H := s.heap) (locs := []) (cells := 0) (slots := 0) (rest := [.int 0, .ref ao]) (st0 := [.int a1, .ref (ad 0), .int 0, .ref ao]) (below := below) (meth := meth) (e := e) (R := rm1_ 8 131) F hT (uE_watch l hfl G c3 ad N M a1 1 hf) ⟨okX.blind, va_recv hK3 hP rfl (wd_at sX_0), okX.at (As := [.ref (ad 0), .int a1]) hT hK3 hP hX (fun _ _ => rfl)⟩ wl_L_70 wi_E_watch we_E_watch wn_E wc_E_watch ck_E_watch ⟨by decide, by decide⟩ ⟨by decide, by decide⟩ hl.1 (As := [.int a1]) rfl (Nat.le_of_ble_eq_true rfl) d_L_watch_4
  refine xt_catch1 (C1 := "java/util/NoSuchElementException") hown hrun htab (by decide) (by decide) (hT.1 _ wq_L_13 _) (va_Nw.use rfl (hT.2.2 _ (List.mem_of_getElem? (i := 0) rfl))) (fun x H1 hk1 hk2 => ?_)
  refine lv_astore_n (lv' := [(3, .ref x), (0, .ref (ad 0)), (1, .int a1), (2, .ref ao)]) hx hb d_L_watch_19 rfl hl (by decide) rfl (fun ls hl => ?_)
  refine lv_iconst (v := 1) hx hb d_L_watch_20 rfl ?_
  have hP1 := xo_wd hP hk1
  have hO1 := xo_one hO (hk1 ao (xo_lt hO))
  have hS1 : va_S (aL ad ao) s.heap H1 [] := ⟨hk2, fun q hq _ => hk1 q hq, fun _ h => by cases h⟩
  exact xo_ret hx hb hr hlk hP1 hO1 hS1 ⟨by decide, by decide⟩ d_L_watch_21
set_option maxHeartbeats 4000000 in
set_option maxRecDepth 100000 in
theorem hL_watcher (l : Launch) (N : Nat) (G : va_G) (c3 : ClassId × ClassId × ClassId) (cL : ClassId) (ad : Nat → Nat) (hd : adI SX ad) (ao : Nat) (ha : ¬ adA SX ad ao) (M : Mem) (o : Nat → Int64) (a1 a2 a3 : Int32) (r : Int32) (hf : fE_watcher a1 a2 a3 M = some r) : LMet l yL_watcher cL_watcher 6 [((0), (12), (15), (13))] (rm1_ 8 133) N G c3 cL ad ao M o [.ref (ad 0), .int a1, .int a2, .int a3, .ref ao] 0 M (vp_updL o 0 r.toInt64) := by
  refine LMet.of (by decide +kernel) (Nat.le_of_ble_eq_true rfl) (fun p e s m args below meth c ls F hT hK hP hO hX hr hlk htab hl => ?_)
  have hx := F.1
  have hb := F.2.1
  have F : CallFix p m c cL_watcher 6 s args gw RL := F
  have hown := F.2.2.2.1
  have hl : lv_has ls 6 [(0, .ref (ad 0)), (1, .int a1), (2, .int a2), (3, .int a3), (4, .ref ao)] := hl
  have hK3 := ty4_3 hK
  have hS : va_S (aL ad ao) s.heap s.heap [] := va_S.rf
  refine lv_aload hx hb d_L_watcher_0 (lv_at hl 4 rfl) ?_
  refine lv_iconst (v := 0) hx hb d_L_watcher_2 rfl ?_
  refine lv_aload_n hx hb d_L_watcher_3 rfl (lv_at hl 0 rfl) ?_
  refine lv_iload_n hx hb d_L_watcher_4 rfl (lv_at hl 1 rfl) ?_
  refine lv_iload_n hx hb d_L_watcher_5 rfl (lv_at hl 2 rfl) ?_
  refine lv_iload_n hx hb d_L_watcher_6 rfl (lv_at hl 3 rfl) ?_
  refine xc_rv (rest := [.int 0, .ref ao]) F hT hK3 hP (tE_watcher l G c3 ad M a1 a2 a3 r hf) sX_0 rfl wl_L_74 wi_E_watcher we_E_watcher wn_E wc_E_watcher ck_E_watcher ⟨rfl, rfl⟩ ⟨by decide, by decide⟩ ⟨Nat.zero_le _, Nat.zero_le _⟩ hl.1 rfl (Nat.le_of_ble_eq_true rfl) d_L_watcher_7 ?_
  refine lv_i2l hx hb d_L_watcher_10 rfl ?_
  refine xo_last hx hb hd ha (fun _ h => h) hK hP hO hS d_L_watcher_11 (fun H locs hP hO hS => ?_)
  refine lv_goto (tgt := 19) hx hb d_L_watcher_12 rfl ?_
  refine lv_iconst (v := 0) hx hb d_L_watcher_19 rfl ?_
  exact xo_ret hx hb hr hlk hP hO hS ⟨Nat.zero_le _, Nat.zero_le _⟩ d_L_watcher_20
set_option maxHeartbeats 4000000 in
set_option maxRecDepth 100000 in
theorem hL_watcher_x1 (l : Launch) (hfl : l.flags = flags0) (N : Nat) (G : va_G) (c3 : ClassId × ClassId × ClassId) (cL : ClassId) (ad : Nat → Nat) (hd : adI SX ad) (ao : Nat) (ha : ¬ adA SX ad ao) (M : Mem) (o : Nat → Int64) (a1 a2 a3 : Int32) (hf : kE_watcher a1 a2 a3 M = some 1) : LMet l yL_watcher cL_watcher 6 [((0), (12), (15), (13))] (rm1_ 8 133) N G c3 cL ad ao M o [.ref (ad 0), .int a1, .int a2, .int a3, .ref ao] 1 M o := by
  refine LMet.of (by decide +kernel) (Nat.le_of_ble_eq_true rfl) (fun p e s m args below meth c ls F hT hK hP hO hX hr hlk htab hl => ?_)
  have hx := F.1
  have hb := F.2.1
  have F : CallFix p m c cL_watcher 6 s args gw RL := F
  have hown := F.2.2.2.1
  have hl : lv_has ls 6 [(0, .ref (ad 0)), (1, .int a1), (2, .int a2), (3, .int a3), (4, .ref ao)] := hl
  have hK3 := ty4_3 hK
  have hS : va_S (aL ad ao) s.heap s.heap [] := va_S.rf
  refine lv_aload hx hb d_L_watcher_0 (lv_at hl 4 rfl) ?_
  refine lv_iconst (v := 0) hx hb d_L_watcher_2 rfl ?_
  refine lv_aload_n hx hb d_L_watcher_3 rfl (lv_at hl 0 rfl) ?_
  refine lv_iload_n hx hb d_L_watcher_4 rfl (lv_at hl 1 rfl) ?_
  refine lv_iload_n hx hb d_L_watcher_5 rfl (lv_at hl 2 rfl) ?_
  refine lv_iload_n hx hb d_L_watcher_6 rfl (lv_at hl 3 rfl) ?_
  have hrun := xt_runV (ls := ls) (H := s.heap) (locs := []) (cells := 0) (slots := 0) (rest := [.int 0, .ref ao]) (st0 := [.int a3, .int a2, .int a1, .ref (ad 0), .int 0, .ref ao]) (below := below) (meth := meth) (e := e) (R := rm1_ 8 133) F hT (uE_watcher l hfl G c3 ad N M a1 a2 a3 1 hf) ⟨okX.blind, va_recv hK3 hP rfl (wd_at sX_0), okX.at (As := [.ref (ad 0), .int a1, .int a2, .int a3]) hT hK3 hP hX (fun _ _ => rfl)⟩ wl_L_74 wi_E_watcher we_E_watcher wn_E wc_E_watcher ck_E_watcher ⟨by decide, by decide⟩ ⟨by decide, by decide⟩ hl.1 (As := [.int a1, .int a2, .int a3]) rfl (Nat.le_of_ble_eq_true rfl) d_L_watcher_7
  refine xt_catch1 (C1 := "java/util/NoSuchElementException") hown hrun htab (by decide) (by decide) (hT.1 _ wq_L_13 _) (va_Nw.use rfl (hT.2.2 _ (List.mem_of_getElem? (i := 0) rfl))) (fun x H1 hk1 hk2 => ?_)
  refine lv_astore (lv' := [(5, .ref x), (0, .ref (ad 0)), (1, .int a1), (2, .int a2), (3, .int a3), (4, .ref ao)]) hx hb d_L_watcher_15 hl (by decide) rfl (fun ls hl => ?_)
  refine lv_iconst (v := 1) hx hb d_L_watcher_17 rfl ?_
  have hP1 := xo_wd hP hk1
  have hO1 := xo_one hO (hk1 ao (xo_lt hO))
  have hS1 : va_S (aL ad ao) s.heap H1 [] := ⟨hk2, fun q hq _ => hk1 q hq, fun _ h => by cases h⟩
  exact xo_ret hx hb hr hlk hP1 hO1 hS1 ⟨by decide, by decide⟩ d_L_watcher_18
set_option maxHeartbeats 4000000 in
set_option maxRecDepth 100000 in
theorem hL_count (l : Launch) (N : Nat) (G : va_G) (c3 : ClassId × ClassId × ClassId) (cL : ClassId) (ad : Nat → Nat) (hd : adI SX ad) (ao : Nat) (ha : ¬ adA SX ad ao) (M : Mem) (o : Nat → Int64) (a1 : Int32) (r : Int32) (hf : fE_count a1 M = some r) : LMet l yL_count cL_count 4 [((0), (9), (12), (15))] (rm1_ 7 111) N G c3 cL ad ao M o [.ref (ad 0), .int a1, .ref ao] 0 M (vp_updL o 0 r.toInt64) := by
  refine LMet.of (by decide +kernel) (Nat.le_of_ble_eq_true rfl) (fun p e s m args below meth c ls F hT hK hP hO hX hr hlk htab hl => ?_)
  have hx := F.1
  have hb := F.2.1
  have F : CallFix p m c cL_count 4 s args gw RL := F
  have hown := F.2.2.2.1
  have hl : lv_has ls 4 [(0, .ref (ad 0)), (1, .int a1), (2, .ref ao)] := hl
  have hK3 := ty4_3 hK
  have hS : va_S (aL ad ao) s.heap s.heap [] := va_S.rf
  refine lv_aload_n hx hb d_L_count_0 rfl (lv_at hl 2 rfl) ?_
  refine lv_iconst (v := 0) hx hb d_L_count_1 rfl ?_
  refine lv_aload_n hx hb d_L_count_2 rfl (lv_at hl 0 rfl) ?_
  refine lv_iload_n hx hb d_L_count_3 rfl (lv_at hl 1 rfl) ?_
  refine xc_rv (rest := [.int 0, .ref ao]) F hT hK3 hP (tE_count l G c3 ad M a1 r hf) sX_0 rfl wl_L_78 wi_E_count we_E_count wn_E wc_E_count ck_E_count ⟨rfl, rfl⟩ ⟨by decide, by decide⟩ ⟨Nat.zero_le _, Nat.zero_le _⟩ hl.1 rfl (Nat.le_of_ble_eq_true rfl) d_L_count_4 ?_
  refine lv_i2l hx hb d_L_count_7 rfl ?_
  refine xo_last hx hb hd ha (fun _ h => h) hK hP hO hS d_L_count_8 (fun H locs hP hO hS => ?_)
  refine lv_goto (tgt := 15) hx hb d_L_count_9 rfl ?_
  refine lv_iconst (v := 0) hx hb d_L_count_15 rfl ?_
  exact xo_ret hx hb hr hlk hP hO hS ⟨Nat.zero_le _, Nat.zero_le _⟩ d_L_count_16
set_option maxHeartbeats 4000000 in
set_option maxRecDepth 100000 in
theorem hL_count_x2 (l : Launch) (hfl : l.flags = flags0) (N : Nat) (G : va_G) (c3 : ClassId × ClassId × ClassId) (cL : ClassId) (ad : Nat → Nat) (hd : adI SX ad) (ao : Nat) (ha : ¬ adA SX ad ao) (M : Mem) (o : Nat → Int64) (a1 : Int32) (hf : kE_count a1 M = some 2) : LMet l yL_count cL_count 4 [((0), (9), (12), (15))] (rm1_ 7 111) N G c3 cL ad ao M o [.ref (ad 0), .int a1, .ref ao] 1 M o := by
  refine LMet.of (by decide +kernel) (Nat.le_of_ble_eq_true rfl) (fun p e s m args below meth c ls F hT hK hP hO hX hr hlk htab hl => ?_)
  have hx := F.1
  have hb := F.2.1
  have F : CallFix p m c cL_count 4 s args gw RL := F
  have hown := F.2.2.2.1
  have hl : lv_has ls 4 [(0, .ref (ad 0)), (1, .int a1), (2, .ref ao)] := hl
  have hK3 := ty4_3 hK
  have hS : va_S (aL ad ao) s.heap s.heap [] := va_S.rf
  refine lv_aload_n hx hb d_L_count_0 rfl (lv_at hl 2 rfl) ?_
  refine lv_iconst (v := 0) hx hb d_L_count_1 rfl ?_
  refine lv_aload_n hx hb d_L_count_2 rfl (lv_at hl 0 rfl) ?_
  refine lv_iload_n hx hb d_L_count_3 rfl (lv_at hl 1 rfl) ?_
  have hrun := xt_runV (ls := ls) (H := s.heap) (locs := []) (cells := 0) (slots := 0) (rest := [.int 0, .ref ao]) (st0 := [.int a1, .ref (ad 0), .int 0, .ref ao]) (below := below) (meth := meth) (e := e) (R := rm1_ 7 111) F hT (uE_count l hfl G c3 ad N M a1 2 hf) ⟨okX.blind, va_recv hK3 hP rfl (wd_at sX_0), okX.at (As := [.ref (ad 0), .int a1]) hT hK3 hP hX (fun _ _ => rfl)⟩ wl_L_78 wi_E_count we_E_count wn_E wc_E_count ck_E_count ⟨by decide, by decide⟩ ⟨by decide, by decide⟩ hl.1 (As := [.int a1]) rfl (Nat.le_of_ble_eq_true rfl) d_L_count_4
  refine xt_catch1 (C1 := "java/lang/IllegalArgumentException") hown hrun htab (by decide) (by decide) (hT.1 _ wq_L_15 _) (va_Nw.use rfl (hT.2.2 _ (List.mem_of_getElem? (i := 1) rfl))) (fun x H1 hk1 hk2 => ?_)
  refine lv_astore_n (lv' := [(3, .ref x), (0, .ref (ad 0)), (1, .int a1), (2, .ref ao)]) hx hb d_L_count_12 rfl hl (by decide) rfl (fun ls hl => ?_)
  refine lv_iconst (v := 1) hx hb d_L_count_13 rfl ?_
  have hP1 := xo_wd hP hk1
  have hO1 := xo_one hO (hk1 ao (xo_lt hO))
  have hS1 : va_S (aL ad ao) s.heap H1 [] := ⟨hk2, fun q hq _ => hk1 q hq, fun _ h => by cases h⟩
  exact xo_ret hx hb hr hlk hP1 hO1 hS1 ⟨by decide, by decide⟩ d_L_count_14
