/-! ===== the cases of the law's switch ===== -/
set_option maxHeartbeats 4000000 in
set_option maxRecDepth 100000 in
theorem lwC_0 {p : Program} {l : Launch} {e : Env} {s : State} {m : MethodId} {below : List Frame} {meth : Method} {c : Code} {H : Heap} {locs : List Loc} {cells slots : Nat} {Q : State → Prop} {ls : Array Slot} {b L n : Nat} {xs : Nat → Int32} {G : va_G} {c3 : ClassId × ClassId × ClassId} {cL : ClassId} {adX adM : Nat → Nat} {ao : Nat} {X X' Y Y' : Mem} {o o' : Nat → Int64} (C : LFix p l s m meth c b L xs G c3 cL adX adM ao) (hI : LInv s G c3 cL adX adM ao X Y o H locs) (hn : n + 5 ≤ L) (hl : lv_has ls 7 [(0, .ref b), (1, .ref (adX 0)), (2, .ref (adM 0)), (3, .ref ao), (4, .int (nI n))]) (hf : cells + 1 ≤ room_1.cells ∧ slots + 6 ≤ room_1.slots) {k : Int32} (hM : LMet l yL_paper cL_paper 5 [((0), (10), (13), (13)), ((0), (10), (17), (15))] (rm1_ 8 133) s.heap.size G c3 cL adX ao X o [.ref (adX 0), .int (xs (n + 1)), .int (xs (n + 2)), .ref ao] k X' o') {r : Int32} (hm : fM_paper (xs (n + 1)) (xs (n + 2)) Y = some (r, Y')) (ht : Y' 0 0 = k) (he : k = 0 → o' 0 = r.toInt64) 
    (kk : ∀ (H1 : Heap) (locs1 : List Loc) (ls1 : Array Slot), LInv s G c3 cL adX adM ao X' Y' o' H1 locs1 → lv_has ls1 7 [(0, .ref b), (1, .ref (adX 0)), (2, .ref (adM 0)), (3, .ref ao), (4, .int (nI n))] → W p l e room_1 s m #[Value.ref b] below meth c H1 locs1 (cells + 1) (slots + 6) Q (F0 m 1656 ls1 [])) : W p l e room_1 s m #[Value.ref b] below meth c H locs cells slots Q (F0 m 136 ls []) := by
  have C' := C
  obtain ⟨F, hT, hK, hX, hdX, hdM, g1, g2, g3, g4, g5, g6, hXs, hbl, hL, hfl, hr, hlk⟩ := C'
  have hx := F.1
  have hb := F.2.1
  refine lv_aload_n hx hb d_L_law_136 rfl (lv_at hl 1 rfl) ?_
  refine lw_arg hx hb hXs hbl hI.2.2.2 hl (p0 := 0) (p4 := 4) (n := n) rfl rfl 1 (ki := 1) rfl (by omega) hL d_L_law_137 d_L_law_138 d_L_law_140 d_L_law_141 d_L_law_142 ?_
  refine lw_arg hx hb hXs hbl hI.2.2.2 hl (p0 := 0) (p4 := 4) (n := n) rfl rfl 2 (ki := 2) rfl (by omega) hL d_L_law_143 d_L_law_144 d_L_law_146 d_L_law_147 d_L_law_148 ?_
  refine lv_aload_n hx hb d_L_law_149 rfl (lv_at hl 3 rfl) ?_
  refine lw_help C hI hM wl_L_85 ws_L_paper wn_L wc_L_paper ck_L_paper ⟨rfl, rfl⟩ ⟨by decide, by decide⟩ hf hl.1 (rest := []) rfl (Nat.le_of_ble_eq_true rfl) d_L_law_150 (fun H locs hI => ?_)
  refine lv_istore (lv' := [(5, .int k), (0, .ref b), (1, .ref (adX 0)), (2, .ref (adM 0)), (3, .ref ao), (4, .int (nI n))]) hx hb d_L_law_153 hl (by decide) rfl (fun ls hl => ?_)
  refine lv_aload_n hx hb d_L_law_155 rfl (lv_at hl 3 rfl) ?_
  refine lw_arg hx hb hXs hbl hI.2.2.2 hl (p0 := 1) (p4 := 5) (n := n) rfl rfl 1 (ki := 1) rfl (by omega) hL d_L_law_156 d_L_law_157 d_L_law_159 d_L_law_160 d_L_law_161 ?_
  refine lw_arg hx hb hXs hbl hI.2.2.2 hl (p0 := 1) (p4 := 5) (n := n) rfl rfl 2 (ki := 2) rfl (by omega) hL d_L_law_162 d_L_law_163 d_L_law_165 d_L_law_166 d_L_law_167 ?_
  refine lw_mod C hI (tM_paper l G c3 adM hdM Y (xs (n + 1)) (xs (n + 2)) r Y' hm) rfl wl_L_90 wi_M_paper we_M_paper wn_M wc_M_paper ck_M_paper ⟨rfl, rfl⟩ ⟨by decide, by decide⟩ ⟨hf.1, hf.2⟩ hl.1 (rest := []) rfl (Nat.le_of_ble_eq_true rfl) d_L_law_168 (fun H locs hI => ?_)
  refine lv_istore (lv' := [(6, .int r), (5, .int k), (0, .ref b), (1, .ref (adX 0)), (2, .ref (adM 0)), (3, .ref ao), (4, .int (nI n))]) hx hb d_L_law_171 hl (by decide) rfl (fun ls hl => ?_)
  refine lv_aload_n hx hb d_L_law_173 rfl (lv_at hl 4 rfl) ?_
  refine xc_rv (rest := []) F hT (ty4_3 hK) hI.2.1 (tM_thrown l G c3 adM Y' _ rfl) sM_0 rfl wl_L_91 wi_M_thrown we_M_thrown wn_M wc_M_thrown ck_M_thrown ⟨rfl, rfl⟩ ⟨by decide, by decide⟩ ⟨hf.1, hf.2⟩ hl.1 rfl (Nat.le_of_ble_eq_true rfl) d_L_law_174 ?_
  refine lv_iload hx hb d_L_law_177 (lv_at hl 1 rfl) ?_
  refine lv_icmp_eq (tgt := 184) hx hb d_L_law_179 rfl (fun _ => ?_) (fun h => absurd ht h)
  refine lv_iload hx hb d_L_law_184 (lv_at hl 1 rfl) ?_
  refine lv_if_ne (tgt := 201) hx hb d_L_law_186 rfl (fun _ => ?_) (fun h0 => ?_)
  · refine lv_goto (tgt := 1656) hx hb d_L_law_201 rfl ?_
    exact kk _ _ _ hI (lv_sub hl [2, 3, 4, 5, 6] rfl)
  · refine lv_aload_n hx hb d_L_law_189 rfl (lv_at hl 5 rfl) ?_
    refine lv_iconst (v := 0) hx hb d_L_law_190 rfl ?_
    refine va_lald hx hb hK hI.2.2.1 0 3 rfl rfl (show ¬ ((0 : Int32) < 0 ∨ 1 ≤ (0 : Int32).toNatClampNeg) by decide) d_L_law_191 ?_
    refine lv_iload hx hb d_L_law_192 (lv_at hl 0 rfl) ?_
    refine lv_i2l hx hb d_L_law_194 rfl ?_
    refine W.lcmp hx hb d_L_law_195 ?_
    have hz : lg_cmp (o' (0 : Int32).toNatClampNeg) r.toInt64 = 0 := by
      rw [show (0 : Int32).toNatClampNeg = 0 by decide, he h0]; exact lg_self _
    refine lv_if_eq (tgt := 201) hx hb d_L_law_196 rfl (fun _ => ?_) (fun h => absurd hz h)
    refine lv_goto (tgt := 1656) hx hb d_L_law_201 rfl ?_
    exact kk _ _ _ hI (lv_sub hl [2, 3, 4, 5, 6] rfl)
theorem lwS_0 {p : Program} {l : Launch} {e : Env} {s : State} {m : MethodId} {below : List Frame} {meth : Method} {c : Code} {H : Heap} {locs : List Loc} {cells slots : Nat} {Q : State → Prop} {ls : Array Slot} {b L n : Nat} {xs : Nat → Int32} {G : va_G} {c3 : ClassId × ClassId × ClassId} {cL : ClassId} {adX adM : Nat → Nat} {ao : Nat} {X Y : Mem} {o : Nat → Int64} {R : Mem → Mem → Prop} (C : LFix p l s m meth c b L xs G c3 cL adX adM ao) (hI : LInv s G c3 cL adX adM ao X Y o H locs) (hn : n + 5 ≤ L) (hl : lv_has ls 7 [(0, .ref b), (1, .ref (adX 0)), (2, .ref (adM 0)), (3, .ref ao), (4, .int (nI n))]) (hf : cells + 1 ≤ room_1.cells ∧ slots + 6 ≤ room_1.slots) (hs : simW2 R (fE_paper (xs (n + 1)) (xs (n + 2))) (kE_paper (xs (n + 1)) (xs (n + 2))) 2 (fM_paper (xs (n + 1)) (xs (n + 2))) X Y)
    (kk : ∀ (X1 Y1 : Mem) (o1 : Nat → Int64) (H1 : Heap) (locs1 : List Loc) (ls1 : Array Slot), R X1 Y1 → LInv s G c3 cL adX adM ao X1 Y1 o1 H1 locs1 → lv_has ls1 7 [(0, .ref b), (1, .ref (adX 0)), (2, .ref (adM 0)), (3, .ref ao), (4, .int (nI n))] → W p l e room_1 s m #[Value.ref b] below meth c H1 locs1 (cells + 1) (slots + 6) Q (F0 m 1656 ls1 [])) : W p l e room_1 s m #[Value.ref b] below meth c H locs cells slots Q (F0 m 136 ls []) := by
  obtain ⟨F, hT, hK, hX, hdX, hdM, g1, g2, g3, g4, g5, g6, hXs, hbl, hL, hfl, hr, hlk⟩ := id C
  rcases hs with hs | hs | hs
  · obtain ⟨r, X', Y', e1, e2, ht, hR⟩ := hs
    exact lwC_0 C hI hn hl hf (hL_paper l s.heap.size G c3 cL adX hdX ao g5 X o (xs (n + 1)) (xs (n + 2)) r X' e1) e2 ht (fun _ => if_pos rfl) (fun H1 locs1 ls1 h1 h2 => kk _ _ _ H1 locs1 ls1 hR h1 h2)
  · obtain ⟨r, Y', e1, e2, ht, hR⟩ := hs
    exact lwC_0 C hI hn hl hf (hL_paper_x1 l hfl s.heap.size G c3 cL adX hdX ao g5 X o (xs (n + 1)) (xs (n + 2)) e1) e2 ht (fun h0 => absurd h0 (by decide)) (fun H1 locs1 ls1 h1 h2 => kk _ _ _ H1 locs1 ls1 hR h1 h2)
  · obtain ⟨r, Y', e1, e2, ht, hR⟩ := hs
    exact lwC_0 C hI hn hl hf (hL_paper_x2 l hfl s.heap.size G c3 cL adX hdX ao g5 X o (xs (n + 1)) (xs (n + 2)) e1) e2 ht (fun h0 => absurd h0 (by decide)) (fun H1 locs1 ls1 h1 h2 => kk _ _ _ H1 locs1 ls1 hR h1 h2)
set_option maxHeartbeats 4000000 in
set_option maxRecDepth 100000 in
theorem lwC_1 {p : Program} {l : Launch} {e : Env} {s : State} {m : MethodId} {below : List Frame} {meth : Method} {c : Code} {H : Heap} {locs : List Loc} {cells slots : Nat} {Q : State → Prop} {ls : Array Slot} {b L n : Nat} {xs : Nat → Int32} {G : va_G} {c3 : ClassId × ClassId × ClassId} {cL : ClassId} {adX adM : Nat → Nat} {ao : Nat} {X X' Y Y' : Mem} {o o' : Nat → Int64} (C : LFix p l s m meth c b L xs G c3 cL adX adM ao) (hI : LInv s G c3 cL adX adM ao X Y o H locs) (hn : n + 5 ≤ L) (hl : lv_has ls 7 [(0, .ref b), (1, .ref (adX 0)), (2, .ref (adM 0)), (3, .ref ao), (4, .int (nI n))]) (hf : cells + 1 ≤ room_1.cells ∧ slots + 6 ≤ room_1.slots) {k : Int32} (hM : LMet l yL_session cL_session 5 [((0), (10), (13), (13)), ((0), (10), (17), (15))] (rm1_ 8 133) s.heap.size G c3 cL adX ao X o [.ref (adX 0), .int (xs (n + 1)), .int (xs (n + 2)), .ref ao] k X' o') {r : Int32} (hm : fM_session (xs (n + 1)) (xs (n + 2)) Y = some (r, Y')) (ht : Y' 0 0 = k) (he : k = 0 → o' 0 = r.toInt64) 
    (kk : ∀ (H1 : Heap) (locs1 : List Loc) (ls1 : Array Slot), LInv s G c3 cL adX adM ao X' Y' o' H1 locs1 → lv_has ls1 7 [(0, .ref b), (1, .ref (adX 0)), (2, .ref (adM 0)), (3, .ref ao), (4, .int (nI n))] → W p l e room_1 s m #[Value.ref b] below meth c H1 locs1 (cells + 1) (slots + 6) Q (F0 m 1656 ls1 [])) : W p l e room_1 s m #[Value.ref b] below meth c H locs cells slots Q (F0 m 204 ls []) := by
  have C' := C
  obtain ⟨F, hT, hK, hX, hdX, hdM, g1, g2, g3, g4, g5, g6, hXs, hbl, hL, hfl, hr, hlk⟩ := C'
  have hx := F.1
  have hb := F.2.1
  refine lv_aload_n hx hb d_L_law_204 rfl (lv_at hl 1 rfl) ?_
  refine lw_arg hx hb hXs hbl hI.2.2.2 hl (p0 := 0) (p4 := 4) (n := n) rfl rfl 1 (ki := 1) rfl (by omega) hL d_L_law_205 d_L_law_206 d_L_law_208 d_L_law_209 d_L_law_210 ?_
  refine lw_arg hx hb hXs hbl hI.2.2.2 hl (p0 := 0) (p4 := 4) (n := n) rfl rfl 2 (ki := 2) rfl (by omega) hL d_L_law_211 d_L_law_212 d_L_law_214 d_L_law_215 d_L_law_216 ?_
  refine lv_aload_n hx hb d_L_law_217 rfl (lv_at hl 3 rfl) ?_
  refine lw_help C hI hM wl_L_95 ws_L_session wn_L wc_L_session ck_L_session ⟨rfl, rfl⟩ ⟨by decide, by decide⟩ hf hl.1 (rest := []) rfl (Nat.le_of_ble_eq_true rfl) d_L_law_218 (fun H locs hI => ?_)
  refine lv_istore (lv' := [(5, .int k), (0, .ref b), (1, .ref (adX 0)), (2, .ref (adM 0)), (3, .ref ao), (4, .int (nI n))]) hx hb d_L_law_221 hl (by decide) rfl (fun ls hl => ?_)
  refine lv_aload_n hx hb d_L_law_223 rfl (lv_at hl 3 rfl) ?_
  refine lw_arg hx hb hXs hbl hI.2.2.2 hl (p0 := 1) (p4 := 5) (n := n) rfl rfl 1 (ki := 1) rfl (by omega) hL d_L_law_224 d_L_law_225 d_L_law_227 d_L_law_228 d_L_law_229 ?_
  refine lw_arg hx hb hXs hbl hI.2.2.2 hl (p0 := 1) (p4 := 5) (n := n) rfl rfl 2 (ki := 2) rfl (by omega) hL d_L_law_230 d_L_law_231 d_L_law_233 d_L_law_234 d_L_law_235 ?_
  refine lw_mod C hI (tM_session l G c3 adM hdM Y (xs (n + 1)) (xs (n + 2)) r Y' hm) rfl wl_L_97 wi_M_session we_M_session wn_M wc_M_session ck_M_session ⟨rfl, rfl⟩ ⟨by decide, by decide⟩ ⟨hf.1, hf.2⟩ hl.1 (rest := []) rfl (Nat.le_of_ble_eq_true rfl) d_L_law_236 (fun H locs hI => ?_)
  refine lv_istore (lv' := [(6, .int r), (5, .int k), (0, .ref b), (1, .ref (adX 0)), (2, .ref (adM 0)), (3, .ref ao), (4, .int (nI n))]) hx hb d_L_law_239 hl (by decide) rfl (fun ls hl => ?_)
  refine lv_aload_n hx hb d_L_law_241 rfl (lv_at hl 4 rfl) ?_
  refine xc_rv (rest := []) F hT (ty4_3 hK) hI.2.1 (tM_thrown l G c3 adM Y' _ rfl) sM_0 rfl wl_L_91 wi_M_thrown we_M_thrown wn_M wc_M_thrown ck_M_thrown ⟨rfl, rfl⟩ ⟨by decide, by decide⟩ ⟨hf.1, hf.2⟩ hl.1 rfl (Nat.le_of_ble_eq_true rfl) d_L_law_242 ?_
  refine lv_iload hx hb d_L_law_245 (lv_at hl 1 rfl) ?_
  refine lv_icmp_eq (tgt := 252) hx hb d_L_law_247 rfl (fun _ => ?_) (fun h => absurd ht h)
  refine lv_iload hx hb d_L_law_252 (lv_at hl 1 rfl) ?_
  refine lv_if_ne (tgt := 269) hx hb d_L_law_254 rfl (fun _ => ?_) (fun h0 => ?_)
  · refine lv_goto (tgt := 1656) hx hb d_L_law_269 rfl ?_
    exact kk _ _ _ hI (lv_sub hl [2, 3, 4, 5, 6] rfl)
  · refine lv_aload_n hx hb d_L_law_257 rfl (lv_at hl 5 rfl) ?_
    refine lv_iconst (v := 0) hx hb d_L_law_258 rfl ?_
    refine va_lald hx hb hK hI.2.2.1 0 3 rfl rfl (show ¬ ((0 : Int32) < 0 ∨ 1 ≤ (0 : Int32).toNatClampNeg) by decide) d_L_law_259 ?_
    refine lv_iload hx hb d_L_law_260 (lv_at hl 0 rfl) ?_
    refine lv_i2l hx hb d_L_law_262 rfl ?_
    refine W.lcmp hx hb d_L_law_263 ?_
    have hz : lg_cmp (o' (0 : Int32).toNatClampNeg) r.toInt64 = 0 := by
      rw [show (0 : Int32).toNatClampNeg = 0 by decide, he h0]; exact lg_self _
    refine lv_if_eq (tgt := 269) hx hb d_L_law_264 rfl (fun _ => ?_) (fun h => absurd hz h)
    refine lv_goto (tgt := 1656) hx hb d_L_law_269 rfl ?_
    exact kk _ _ _ hI (lv_sub hl [2, 3, 4, 5, 6] rfl)
theorem lwS_1 {p : Program} {l : Launch} {e : Env} {s : State} {m : MethodId} {below : List Frame} {meth : Method} {c : Code} {H : Heap} {locs : List Loc} {cells slots : Nat} {Q : State → Prop} {ls : Array Slot} {b L n : Nat} {xs : Nat → Int32} {G : va_G} {c3 : ClassId × ClassId × ClassId} {cL : ClassId} {adX adM : Nat → Nat} {ao : Nat} {X Y : Mem} {o : Nat → Int64} {R : Mem → Mem → Prop} (C : LFix p l s m meth c b L xs G c3 cL adX adM ao) (hI : LInv s G c3 cL adX adM ao X Y o H locs) (hn : n + 5 ≤ L) (hl : lv_has ls 7 [(0, .ref b), (1, .ref (adX 0)), (2, .ref (adM 0)), (3, .ref ao), (4, .int (nI n))]) (hf : cells + 1 ≤ room_1.cells ∧ slots + 6 ≤ room_1.slots) (hs : simW2 R (fE_session (xs (n + 1)) (xs (n + 2))) (kE_session (xs (n + 1)) (xs (n + 2))) 2 (fM_session (xs (n + 1)) (xs (n + 2))) X Y)
    (kk : ∀ (X1 Y1 : Mem) (o1 : Nat → Int64) (H1 : Heap) (locs1 : List Loc) (ls1 : Array Slot), R X1 Y1 → LInv s G c3 cL adX adM ao X1 Y1 o1 H1 locs1 → lv_has ls1 7 [(0, .ref b), (1, .ref (adX 0)), (2, .ref (adM 0)), (3, .ref ao), (4, .int (nI n))] → W p l e room_1 s m #[Value.ref b] below meth c H1 locs1 (cells + 1) (slots + 6) Q (F0 m 1656 ls1 [])) : W p l e room_1 s m #[Value.ref b] below meth c H locs cells slots Q (F0 m 204 ls []) := by
  obtain ⟨F, hT, hK, hX, hdX, hdM, g1, g2, g3, g4, g5, g6, hXs, hbl, hL, hfl, hr, hlk⟩ := id C
  rcases hs with hs | hs | hs
  · obtain ⟨r, X', Y', e1, e2, ht, hR⟩ := hs
    exact lwC_1 C hI hn hl hf (hL_session l s.heap.size G c3 cL adX hdX ao g5 X o (xs (n + 1)) (xs (n + 2)) r X' e1) e2 ht (fun _ => if_pos rfl) (fun H1 locs1 ls1 h1 h2 => kk _ _ _ H1 locs1 ls1 hR h1 h2)
  · obtain ⟨r, Y', e1, e2, ht, hR⟩ := hs
    exact lwC_1 C hI hn hl hf (hL_session_x1 l hfl s.heap.size G c3 cL adX hdX ao g5 X o (xs (n + 1)) (xs (n + 2)) e1) e2 ht (fun h0 => absurd h0 (by decide)) (fun H1 locs1 ls1 h1 h2 => kk _ _ _ H1 locs1 ls1 hR h1 h2)
  · obtain ⟨r, Y', e1, e2, ht, hR⟩ := hs
    exact lwC_1 C hI hn hl hf (hL_session_x2 l hfl s.heap.size G c3 cL adX hdX ao g5 X o (xs (n + 1)) (xs (n + 2)) e1) e2 ht (fun h0 => absurd h0 (by decide)) (fun H1 locs1 ls1 h1 h2 => kk _ _ _ H1 locs1 ls1 hR h1 h2)
set_option maxHeartbeats 4000000 in
set_option maxRecDepth 100000 in
theorem lwC_2 {p : Program} {l : Launch} {e : Env} {s : State} {m : MethodId} {below : List Frame} {meth : Method} {c : Code} {H : Heap} {locs : List Loc} {cells slots : Nat} {Q : State → Prop} {ls : Array Slot} {b L n : Nat} {xs : Nat → Int32} {G : va_G} {c3 : ClassId × ClassId × ClassId} {cL : ClassId} {adX adM : Nat → Nat} {ao : Nat} {X X' Y Y' : Mem} {o o' : Nat → Int64} (C : LFix p l s m meth c b L xs G c3 cL adX adM ao) (hI : LInv s G c3 cL adX adM ao X Y o H locs) (hn : n + 5 ≤ L) (hl : lv_has ls 7 [(0, .ref b), (1, .ref (adX 0)), (2, .ref (adM 0)), (3, .ref ao), (4, .int (nI n))]) (hf : cells + 1 ≤ room_1.cells ∧ slots + 6 ≤ room_1.slots) {k : Int32} (hM : LMet l yL_enrol cL_enrol 6 [((0), (19), (22), (13))] (rm1_ 8 134) s.heap.size G c3 cL adX ao X o [.ref (adX 0), .int (xs (n + 1)), .int (xs (n + 2)), .int (zb (xs (n + 3))), .ref ao] k X' o') {r : Int32} (hm : fM_enrol (xs (n + 1)) (xs (n + 2)) (zb (xs (n + 3))) Y = some (r, Y')) (ht : Y' 0 0 = k) (he : k = 0 → o' 0 = zl r) 
    (kk : ∀ (H1 : Heap) (locs1 : List Loc) (ls1 : Array Slot), LInv s G c3 cL adX adM ao X' Y' o' H1 locs1 → lv_has ls1 7 [(0, .ref b), (1, .ref (adX 0)), (2, .ref (adM 0)), (3, .ref ao), (4, .int (nI n))] → W p l e room_1 s m #[Value.ref b] below meth c H1 locs1 (cells + 1) (slots + 6) Q (F0 m 1656 ls1 [])) : W p l e room_1 s m #[Value.ref b] below meth c H locs cells slots Q (F0 m 272 ls []) := by
  have C' := C
  obtain ⟨F, hT, hK, hX, hdX, hdM, g1, g2, g3, g4, g5, g6, hXs, hbl, hL, hfl, hr, hlk⟩ := C'
  have hx := F.1
  have hb := F.2.1
  refine lv_aload_n hx hb d_L_law_272 rfl (lv_at hl 1 rfl) ?_
  refine lw_arg hx hb hXs hbl hI.2.2.2 hl (p0 := 0) (p4 := 4) (n := n) rfl rfl 1 (ki := 1) rfl (by omega) hL d_L_law_273 d_L_law_274 d_L_law_276 d_L_law_277 d_L_law_278 ?_
  refine lw_arg hx hb hXs hbl hI.2.2.2 hl (p0 := 0) (p4 := 4) (n := n) rfl rfl 2 (ki := 2) rfl (by omega) hL d_L_law_279 d_L_law_280 d_L_law_282 d_L_law_283 d_L_law_284 ?_
  refine lw_arg hx hb hXs hbl hI.2.2.2 hl (p0 := 0) (p4 := 4) (n := n) rfl rfl 3 (ki := 3) rfl (by omega) hL d_L_law_285 d_L_law_286 d_L_law_288 d_L_law_289 d_L_law_290 ?_
  refine lw_bool hx hb d_L_law_291 d_L_law_294 d_L_law_295 d_L_law_298 ?_
  refine lv_aload_n hx hb d_L_law_299 rfl (lv_at hl 3 rfl) ?_
  refine lw_help C hI hM wl_L_98 ws_L_enrol wn_L wc_L_enrol ck_L_enrol ⟨rfl, rfl⟩ ⟨by decide, by decide⟩ hf hl.1 (rest := []) rfl (Nat.le_of_ble_eq_true rfl) d_L_law_300 (fun H locs hI => ?_)
  refine lv_istore (lv' := [(5, .int k), (0, .ref b), (1, .ref (adX 0)), (2, .ref (adM 0)), (3, .ref ao), (4, .int (nI n))]) hx hb d_L_law_303 hl (by decide) rfl (fun ls hl => ?_)
  refine lv_aload_n hx hb d_L_law_305 rfl (lv_at hl 3 rfl) ?_
  refine lw_arg hx hb hXs hbl hI.2.2.2 hl (p0 := 1) (p4 := 5) (n := n) rfl rfl 1 (ki := 1) rfl (by omega) hL d_L_law_306 d_L_law_307 d_L_law_309 d_L_law_310 d_L_law_311 ?_
  refine lw_arg hx hb hXs hbl hI.2.2.2 hl (p0 := 1) (p4 := 5) (n := n) rfl rfl 2 (ki := 2) rfl (by omega) hL d_L_law_312 d_L_law_313 d_L_law_315 d_L_law_316 d_L_law_317 ?_
  refine lw_arg hx hb hXs hbl hI.2.2.2 hl (p0 := 1) (p4 := 5) (n := n) rfl rfl 3 (ki := 3) rfl (by omega) hL d_L_law_318 d_L_law_319 d_L_law_321 d_L_law_322 d_L_law_323 ?_
  refine lw_bool hx hb d_L_law_324 d_L_law_327 d_L_law_328 d_L_law_331 ?_
  refine lw_mod C hI (tM_enrol l G c3 adM hdM Y (xs (n + 1)) (xs (n + 2)) (zb (xs (n + 3))) r Y' hm) rfl wl_L_101 wi_M_enrol we_M_enrol wn_M wc_M_enrol ck_M_enrol ⟨rfl, rfl⟩ ⟨by decide, by decide⟩ ⟨hf.1, hf.2⟩ hl.1 (rest := []) rfl (Nat.le_of_ble_eq_true rfl) d_L_law_332 (fun H locs hI => ?_)
  refine lv_istore (lv' := [(6, .int r), (5, .int k), (0, .ref b), (1, .ref (adX 0)), (2, .ref (adM 0)), (3, .ref ao), (4, .int (nI n))]) hx hb d_L_law_335 hl (by decide) rfl (fun ls hl => ?_)
  refine lv_aload_n hx hb d_L_law_337 rfl (lv_at hl 4 rfl) ?_
  refine xc_rv (rest := []) F hT (ty4_3 hK) hI.2.1 (tM_thrown l G c3 adM Y' _ rfl) sM_0 rfl wl_L_91 wi_M_thrown we_M_thrown wn_M wc_M_thrown ck_M_thrown ⟨rfl, rfl⟩ ⟨by decide, by decide⟩ ⟨hf.1, hf.2⟩ hl.1 rfl (Nat.le_of_ble_eq_true rfl) d_L_law_338 ?_
  refine lv_iload hx hb d_L_law_341 (lv_at hl 1 rfl) ?_
  refine lv_icmp_eq (tgt := 348) hx hb d_L_law_343 rfl (fun _ => ?_) (fun h => absurd ht h)
  refine lv_iload hx hb d_L_law_348 (lv_at hl 1 rfl) ?_
  refine lv_if_ne (tgt := 372) hx hb d_L_law_350 rfl (fun _ => ?_) (fun h0 => ?_)
  · refine lv_goto (tgt := 1656) hx hb d_L_law_372 rfl ?_
    exact kk _ _ _ hI (lv_sub hl [2, 3, 4, 5, 6] rfl)
  · refine lv_aload_n hx hb d_L_law_353 rfl (lv_at hl 5 rfl) ?_
    refine lv_iconst (v := 0) hx hb d_L_law_354 rfl ?_
    refine va_lald hx hb hK hI.2.2.1 0 3 rfl rfl (show ¬ ((0 : Int32) < 0 ∨ 1 ≤ (0 : Int32).toNatClampNeg) by decide) d_L_law_355 ?_
    refine lv_iload hx hb d_L_law_356 (lv_at hl 0 rfl) ?_
    refine lw_boolL hx hb d_L_law_358 d_L_law_361 d_L_law_362 d_L_law_365 ?_
    refine W.lcmp hx hb d_L_law_366 ?_
    have hz : lg_cmp (o' (0 : Int32).toNatClampNeg) (zl r) = 0 := by
      rw [show (0 : Int32).toNatClampNeg = 0 by decide, he h0]; exact lg_self _
    refine lv_if_eq (tgt := 372) hx hb d_L_law_367 rfl (fun _ => ?_) (fun h => absurd hz h)
    refine lv_goto (tgt := 1656) hx hb d_L_law_372 rfl ?_
    exact kk _ _ _ hI (lv_sub hl [2, 3, 4, 5, 6] rfl)
theorem lwS_2 {p : Program} {l : Launch} {e : Env} {s : State} {m : MethodId} {below : List Frame} {meth : Method} {c : Code} {H : Heap} {locs : List Loc} {cells slots : Nat} {Q : State → Prop} {ls : Array Slot} {b L n : Nat} {xs : Nat → Int32} {G : va_G} {c3 : ClassId × ClassId × ClassId} {cL : ClassId} {adX adM : Nat → Nat} {ao : Nat} {X Y : Mem} {o : Nat → Int64} {R : Mem → Mem → Prop} (C : LFix p l s m meth c b L xs G c3 cL adX adM ao) (hI : LInv s G c3 cL adX adM ao X Y o H locs) (hn : n + 5 ≤ L) (hl : lv_has ls 7 [(0, .ref b), (1, .ref (adX 0)), (2, .ref (adM 0)), (3, .ref ao), (4, .int (nI n))]) (hf : cells + 1 ≤ room_1.cells ∧ slots + 6 ≤ room_1.slots) (hs : simW1 R (fE_enrol (xs (n + 1)) (xs (n + 2)) (zb (xs (n + 3)))) (kE_enrol (xs (n + 1)) (xs (n + 2)) (zb (xs (n + 3)))) (fM_enrol (xs (n + 1)) (xs (n + 2)) (zb (xs (n + 3)))) X Y)
    (kk : ∀ (X1 Y1 : Mem) (o1 : Nat → Int64) (H1 : Heap) (locs1 : List Loc) (ls1 : Array Slot), R X1 Y1 → LInv s G c3 cL adX adM ao X1 Y1 o1 H1 locs1 → lv_has ls1 7 [(0, .ref b), (1, .ref (adX 0)), (2, .ref (adM 0)), (3, .ref ao), (4, .int (nI n))] → W p l e room_1 s m #[Value.ref b] below meth c H1 locs1 (cells + 1) (slots + 6) Q (F0 m 1656 ls1 [])) : W p l e room_1 s m #[Value.ref b] below meth c H locs cells slots Q (F0 m 272 ls []) := by
  obtain ⟨F, hT, hK, hX, hdX, hdM, g1, g2, g3, g4, g5, g6, hXs, hbl, hL, hfl, hr, hlk⟩ := id C
  rcases hs with hs | hs
  · obtain ⟨r, X', Y', e1, e2, ht, hR⟩ := hs
    exact lwC_2 C hI hn hl hf (hL_enrol l s.heap.size G c3 cL adX hdX ao g5 X o (xs (n + 1)) (xs (n + 2)) (zb (xs (n + 3))) r X' e1) e2 ht (fun _ => if_pos rfl) (fun H1 locs1 ls1 h1 h2 => kk _ _ _ H1 locs1 ls1 hR h1 h2)
  · obtain ⟨r, Y', e1, e2, ht, hR⟩ := hs
    exact lwC_2 C hI hn hl hf (hL_enrol_x1 l hfl s.heap.size G c3 cL adX hdX ao g5 X o (xs (n + 1)) (xs (n + 2)) (zb (xs (n + 3))) e1) e2 ht (fun h0 => absurd h0 (by decide)) (fun H1 locs1 ls1 h1 h2 => kk _ _ _ H1 locs1 ls1 hR h1 h2)
set_option maxHeartbeats 4000000 in
set_option maxRecDepth 100000 in
theorem lwC_3 {p : Program} {l : Launch} {e : Env} {s : State} {m : MethodId} {below : List Frame} {meth : Method} {c : Code} {H : Heap} {locs : List Loc} {cells slots : Nat} {Q : State → Prop} {ls : Array Slot} {b L n : Nat} {xs : Nat → Int32} {G : va_G} {c3 : ClassId × ClassId × ClassId} {cL : ClassId} {adX adM : Nat → Nat} {ao : Nat} {X X' Y Y' : Mem} {o o' : Nat → Int64} (C : LFix p l s m meth c b L xs G c3 cL adX adM ao) (hI : LInv s G c3 cL adX adM ao X Y o H locs) (hn : n + 5 ≤ L) (hl : lv_has ls 7 [(0, .ref b), (1, .ref (adX 0)), (2, .ref (adM 0)), (3, .ref ao), (4, .int (nI n))]) (hf : cells + 1 ≤ room_1.cells ∧ slots + 6 ≤ room_1.slots) {k : Int32} (hM : LMet l yL_extra cL_extra 5 [((0), (17), (20), (13))] (rm1_ 8 133) s.heap.size G c3 cL adX ao X o [.ref (adX 0), .int (xs (n + 1)), .int (zb (xs (n + 2))), .ref ao] k X' o') {r : Int32} (hm : fM_extra (xs (n + 1)) (zb (xs (n + 2))) Y = some (r, Y')) (ht : Y' 0 0 = k) (he : k = 0 → o' 0 = zl r) 
    (kk : ∀ (H1 : Heap) (locs1 : List Loc) (ls1 : Array Slot), LInv s G c3 cL adX adM ao X' Y' o' H1 locs1 → lv_has ls1 7 [(0, .ref b), (1, .ref (adX 0)), (2, .ref (adM 0)), (3, .ref ao), (4, .int (nI n))] → W p l e room_1 s m #[Value.ref b] below meth c H1 locs1 (cells + 1) (slots + 6) Q (F0 m 1656 ls1 [])) : W p l e room_1 s m #[Value.ref b] below meth c H locs cells slots Q (F0 m 375 ls []) := by
  have C' := C
  obtain ⟨F, hT, hK, hX, hdX, hdM, g1, g2, g3, g4, g5, g6, hXs, hbl, hL, hfl, hr, hlk⟩ := C'
  have hx := F.1
  have hb := F.2.1
  refine lv_aload_n hx hb d_L_law_375 rfl (lv_at hl 1 rfl) ?_
  refine lw_arg hx hb hXs hbl hI.2.2.2 hl (p0 := 0) (p4 := 4) (n := n) rfl rfl 1 (ki := 1) rfl (by omega) hL d_L_law_376 d_L_law_377 d_L_law_379 d_L_law_380 d_L_law_381 ?_
  refine lw_arg hx hb hXs hbl hI.2.2.2 hl (p0 := 0) (p4 := 4) (n := n) rfl rfl 2 (ki := 2) rfl (by omega) hL d_L_law_382 d_L_law_383 d_L_law_385 d_L_law_386 d_L_law_387 ?_
  refine lw_bool hx hb d_L_law_388 d_L_law_391 d_L_law_392 d_L_law_395 ?_
  refine lv_aload_n hx hb d_L_law_396 rfl (lv_at hl 3 rfl) ?_
  refine lw_help C hI hM wl_L_102 ws_L_extra wn_L wc_L_extra ck_L_extra ⟨rfl, rfl⟩ ⟨by decide, by decide⟩ hf hl.1 (rest := []) rfl (Nat.le_of_ble_eq_true rfl) d_L_law_397 (fun H locs hI => ?_)
  refine lv_istore (lv' := [(5, .int k), (0, .ref b), (1, .ref (adX 0)), (2, .ref (adM 0)), (3, .ref ao), (4, .int (nI n))]) hx hb d_L_law_400 hl (by decide) rfl (fun ls hl => ?_)
  refine lv_aload_n hx hb d_L_law_402 rfl (lv_at hl 3 rfl) ?_
  refine lw_arg hx hb hXs hbl hI.2.2.2 hl (p0 := 1) (p4 := 5) (n := n) rfl rfl 1 (ki := 1) rfl (by omega) hL d_L_law_403 d_L_law_404 d_L_law_406 d_L_law_407 d_L_law_408 ?_
  refine lw_arg hx hb hXs hbl hI.2.2.2 hl (p0 := 1) (p4 := 5) (n := n) rfl rfl 2 (ki := 2) rfl (by omega) hL d_L_law_409 d_L_law_410 d_L_law_412 d_L_law_413 d_L_law_414 ?_
  refine lw_bool hx hb d_L_law_415 d_L_law_418 d_L_law_419 d_L_law_422 ?_
  refine lw_mod C hI (tM_extra l G c3 adM hdM Y (xs (n + 1)) (zb (xs (n + 2))) r Y' hm) rfl wl_L_105 wi_M_extra we_M_extra wn_M wc_M_extra ck_M_extra ⟨rfl, rfl⟩ ⟨by decide, by decide⟩ ⟨hf.1, hf.2⟩ hl.1 (rest := []) rfl (Nat.le_of_ble_eq_true rfl) d_L_law_423 (fun H locs hI => ?_)
  refine lv_istore (lv' := [(6, .int r), (5, .int k), (0, .ref b), (1, .ref (adX 0)), (2, .ref (adM 0)), (3, .ref ao), (4, .int (nI n))]) hx hb d_L_law_426 hl (by decide) rfl (fun ls hl => ?_)
  refine lv_aload_n hx hb d_L_law_428 rfl (lv_at hl 4 rfl) ?_
  refine xc_rv (rest := []) F hT (ty4_3 hK) hI.2.1 (tM_thrown l G c3 adM Y' _ rfl) sM_0 rfl wl_L_91 wi_M_thrown we_M_thrown wn_M wc_M_thrown ck_M_thrown ⟨rfl, rfl⟩ ⟨by decide, by decide⟩ ⟨hf.1, hf.2⟩ hl.1 rfl (Nat.le_of_ble_eq_true rfl) d_L_law_429 ?_
  refine lv_iload hx hb d_L_law_432 (lv_at hl 1 rfl) ?_
  refine lv_icmp_eq (tgt := 439) hx hb d_L_law_434 rfl (fun _ => ?_) (fun h => absurd ht h)
  refine lv_iload hx hb d_L_law_439 (lv_at hl 1 rfl) ?_
  refine lv_if_ne (tgt := 463) hx hb d_L_law_441 rfl (fun _ => ?_) (fun h0 => ?_)
  · refine lv_goto (tgt := 1656) hx hb d_L_law_463 rfl ?_
    exact kk _ _ _ hI (lv_sub hl [2, 3, 4, 5, 6] rfl)
  · refine lv_aload_n hx hb d_L_law_444 rfl (lv_at hl 5 rfl) ?_
    refine lv_iconst (v := 0) hx hb d_L_law_445 rfl ?_
    refine va_lald hx hb hK hI.2.2.1 0 3 rfl rfl (show ¬ ((0 : Int32) < 0 ∨ 1 ≤ (0 : Int32).toNatClampNeg) by decide) d_L_law_446 ?_
    refine lv_iload hx hb d_L_law_447 (lv_at hl 0 rfl) ?_
    refine lw_boolL hx hb d_L_law_449 d_L_law_452 d_L_law_453 d_L_law_456 ?_
    refine W.lcmp hx hb d_L_law_457 ?_
    have hz : lg_cmp (o' (0 : Int32).toNatClampNeg) (zl r) = 0 := by
      rw [show (0 : Int32).toNatClampNeg = 0 by decide, he h0]; exact lg_self _
    refine lv_if_eq (tgt := 463) hx hb d_L_law_458 rfl (fun _ => ?_) (fun h => absurd hz h)
    refine lv_goto (tgt := 1656) hx hb d_L_law_463 rfl ?_
    exact kk _ _ _ hI (lv_sub hl [2, 3, 4, 5, 6] rfl)
theorem lwS_3 {p : Program} {l : Launch} {e : Env} {s : State} {m : MethodId} {below : List Frame} {meth : Method} {c : Code} {H : Heap} {locs : List Loc} {cells slots : Nat} {Q : State → Prop} {ls : Array Slot} {b L n : Nat} {xs : Nat → Int32} {G : va_G} {c3 : ClassId × ClassId × ClassId} {cL : ClassId} {adX adM : Nat → Nat} {ao : Nat} {X Y : Mem} {o : Nat → Int64} {R : Mem → Mem → Prop} (C : LFix p l s m meth c b L xs G c3 cL adX adM ao) (hI : LInv s G c3 cL adX adM ao X Y o H locs) (hn : n + 5 ≤ L) (hl : lv_has ls 7 [(0, .ref b), (1, .ref (adX 0)), (2, .ref (adM 0)), (3, .ref ao), (4, .int (nI n))]) (hf : cells + 1 ≤ room_1.cells ∧ slots + 6 ≤ room_1.slots) (hs : simW1 R (fE_extra (xs (n + 1)) (zb (xs (n + 2)))) (kE_extra (xs (n + 1)) (zb (xs (n + 2)))) (fM_extra (xs (n + 1)) (zb (xs (n + 2)))) X Y)
    (kk : ∀ (X1 Y1 : Mem) (o1 : Nat → Int64) (H1 : Heap) (locs1 : List Loc) (ls1 : Array Slot), R X1 Y1 → LInv s G c3 cL adX adM ao X1 Y1 o1 H1 locs1 → lv_has ls1 7 [(0, .ref b), (1, .ref (adX 0)), (2, .ref (adM 0)), (3, .ref ao), (4, .int (nI n))] → W p l e room_1 s m #[Value.ref b] below meth c H1 locs1 (cells + 1) (slots + 6) Q (F0 m 1656 ls1 [])) : W p l e room_1 s m #[Value.ref b] below meth c H locs cells slots Q (F0 m 375 ls []) := by
  obtain ⟨F, hT, hK, hX, hdX, hdM, g1, g2, g3, g4, g5, g6, hXs, hbl, hL, hfl, hr, hlk⟩ := id C
  rcases hs with hs | hs
  · obtain ⟨r, X', Y', e1, e2, ht, hR⟩ := hs
    exact lwC_3 C hI hn hl hf (hL_extra l s.heap.size G c3 cL adX hdX ao g5 X o (xs (n + 1)) (zb (xs (n + 2))) r X' e1) e2 ht (fun _ => if_pos rfl) (fun H1 locs1 ls1 h1 h2 => kk _ _ _ H1 locs1 ls1 hR h1 h2)
  · obtain ⟨r, Y', e1, e2, ht, hR⟩ := hs
    exact lwC_3 C hI hn hl hf (hL_extra_x1 l hfl s.heap.size G c3 cL adX hdX ao g5 X o (xs (n + 1)) (zb (xs (n + 2))) e1) e2 ht (fun h0 => absurd h0 (by decide)) (fun H1 locs1 ls1 h1 h2 => kk _ _ _ H1 locs1 ls1 hR h1 h2)
set_option maxHeartbeats 4000000 in
set_option maxRecDepth 100000 in
theorem lwC_4 {p : Program} {l : Launch} {e : Env} {s : State} {m : MethodId} {below : List Frame} {meth : Method} {c : Code} {H : Heap} {locs : List Loc} {cells slots : Nat} {Q : State → Prop} {ls : Array Slot} {b L n : Nat} {xs : Nat → Int32} {G : va_G} {c3 : ClassId × ClassId × ClassId} {cL : ClassId} {adX adM : Nat → Nat} {ao : Nat} {X X' Y Y' : Mem} {o o' : Nat → Int64} (C : LFix p l s m meth c b L xs G c3 cL adX adM ao) (hI : LInv s G c3 cL adX adM ao X Y o H locs) (hn : n + 5 ≤ L) (hl : lv_has ls 7 [(0, .ref b), (1, .ref (adX 0)), (2, .ref (adM 0)), (3, .ref ao), (4, .int (nI n))]) (hf : cells + 1 ≤ room_1.cells ∧ slots + 6 ≤ room_1.slots) {k : Int32} (hM : LMet l yL_rule cL_rule 7 [((0), (21), (24), (13)), ((0), (21), (28), (15))] (rm1_ 8 134) s.heap.size G c3 cL adX ao X o [.ref (adX 0), .int (xs (n + 1)), .int (xs (n + 2)), .int (xs (n + 3)), .int (zb (xs (n + 4))), .ref ao] k X' o') {r : Int32} (hm : fM_rule (xs (n + 1)) (xs (n + 2)) (xs (n + 3)) (zb (xs (n + 4))) Y = some (r, Y')) (ht : Y' 0 0 = k) (he : k = 0 → o' 0 = zl r) 
    (kk : ∀ (H1 : Heap) (locs1 : List Loc) (ls1 : Array Slot), LInv s G c3 cL adX adM ao X' Y' o' H1 locs1 → lv_has ls1 7 [(0, .ref b), (1, .ref (adX 0)), (2, .ref (adM 0)), (3, .ref ao), (4, .int (nI n))] → W p l e room_1 s m #[Value.ref b] below meth c H1 locs1 (cells + 1) (slots + 6) Q (F0 m 1656 ls1 [])) : W p l e room_1 s m #[Value.ref b] below meth c H locs cells slots Q (F0 m 466 ls []) := by
  have C' := C
  obtain ⟨F, hT, hK, hX, hdX, hdM, g1, g2, g3, g4, g5, g6, hXs, hbl, hL, hfl, hr, hlk⟩ := C'
  have hx := F.1
  have hb := F.2.1
  refine lv_aload_n hx hb d_L_law_466 rfl (lv_at hl 1 rfl) ?_
  refine lw_arg hx hb hXs hbl hI.2.2.2 hl (p0 := 0) (p4 := 4) (n := n) rfl rfl 1 (ki := 1) rfl (by omega) hL d_L_law_467 d_L_law_468 d_L_law_470 d_L_law_471 d_L_law_472 ?_
  refine lw_arg hx hb hXs hbl hI.2.2.2 hl (p0 := 0) (p4 := 4) (n := n) rfl rfl 2 (ki := 2) rfl (by omega) hL d_L_law_473 d_L_law_474 d_L_law_476 d_L_law_477 d_L_law_478 ?_
  refine lw_arg hx hb hXs hbl hI.2.2.2 hl (p0 := 0) (p4 := 4) (n := n) rfl rfl 3 (ki := 3) rfl (by omega) hL d_L_law_479 d_L_law_480 d_L_law_482 d_L_law_483 d_L_law_484 ?_
  refine lw_arg hx hb hXs hbl hI.2.2.2 hl (p0 := 0) (p4 := 4) (n := n) rfl rfl 4 (ki := 4) rfl (by omega) hL d_L_law_485 d_L_law_486 d_L_law_488 d_L_law_489 d_L_law_490 ?_
  refine lw_bool hx hb d_L_law_491 d_L_law_494 d_L_law_495 d_L_law_498 ?_
  refine lv_aload_n hx hb d_L_law_499 rfl (lv_at hl 3 rfl) ?_
  refine lw_help C hI hM wl_L_106 ws_L_rule wn_L wc_L_rule ck_L_rule ⟨rfl, rfl⟩ ⟨by decide, by decide⟩ hf hl.1 (rest := []) rfl (Nat.le_of_ble_eq_true rfl) d_L_law_500 (fun H locs hI => ?_)
  refine lv_istore (lv' := [(5, .int k), (0, .ref b), (1, .ref (adX 0)), (2, .ref (adM 0)), (3, .ref ao), (4, .int (nI n))]) hx hb d_L_law_503 hl (by decide) rfl (fun ls hl => ?_)
  refine lv_aload_n hx hb d_L_law_505 rfl (lv_at hl 3 rfl) ?_
  refine lw_arg hx hb hXs hbl hI.2.2.2 hl (p0 := 1) (p4 := 5) (n := n) rfl rfl 1 (ki := 1) rfl (by omega) hL d_L_law_506 d_L_law_507 d_L_law_509 d_L_law_510 d_L_law_511 ?_
  refine lw_arg hx hb hXs hbl hI.2.2.2 hl (p0 := 1) (p4 := 5) (n := n) rfl rfl 2 (ki := 2) rfl (by omega) hL d_L_law_512 d_L_law_513 d_L_law_515 d_L_law_516 d_L_law_517 ?_
  refine lw_arg hx hb hXs hbl hI.2.2.2 hl (p0 := 1) (p4 := 5) (n := n) rfl rfl 3 (ki := 3) rfl (by omega) hL d_L_law_518 d_L_law_519 d_L_law_521 d_L_law_522 d_L_law_523 ?_
  refine lw_arg hx hb hXs hbl hI.2.2.2 hl (p0 := 1) (p4 := 5) (n := n) rfl rfl 4 (ki := 4) rfl (by omega) hL d_L_law_524 d_L_law_525 d_L_law_527 d_L_law_528 d_L_law_529 ?_
  refine lw_bool hx hb d_L_law_530 d_L_law_533 d_L_law_534 d_L_law_537 ?_
  refine lw_mod C hI (tM_rule l G c3 adM hdM Y (xs (n + 1)) (xs (n + 2)) (xs (n + 3)) (zb (xs (n + 4))) r Y' hm) rfl wl_L_109 wi_M_rule we_M_rule wn_M wc_M_rule ck_M_rule ⟨rfl, rfl⟩ ⟨by decide, by decide⟩ ⟨hf.1, hf.2⟩ hl.1 (rest := []) rfl (Nat.le_of_ble_eq_true rfl) d_L_law_538 (fun H locs hI => ?_)
  refine lv_istore (lv' := [(6, .int r), (5, .int k), (0, .ref b), (1, .ref (adX 0)), (2, .ref (adM 0)), (3, .ref ao), (4, .int (nI n))]) hx hb d_L_law_541 hl (by decide) rfl (fun ls hl => ?_)
  refine lv_aload_n hx hb d_L_law_543 rfl (lv_at hl 4 rfl) ?_
  refine xc_rv (rest := []) F hT (ty4_3 hK) hI.2.1 (tM_thrown l G c3 adM Y' _ rfl) sM_0 rfl wl_L_91 wi_M_thrown we_M_thrown wn_M wc_M_thrown ck_M_thrown ⟨rfl, rfl⟩ ⟨by decide, by decide⟩ ⟨hf.1, hf.2⟩ hl.1 rfl (Nat.le_of_ble_eq_true rfl) d_L_law_544 ?_
  refine lv_iload hx hb d_L_law_547 (lv_at hl 1 rfl) ?_
  refine lv_icmp_eq (tgt := 554) hx hb d_L_law_549 rfl (fun _ => ?_) (fun h => absurd ht h)
  refine lv_iload hx hb d_L_law_554 (lv_at hl 1 rfl) ?_
  refine lv_if_ne (tgt := 578) hx hb d_L_law_556 rfl (fun _ => ?_) (fun h0 => ?_)
  · refine lv_goto (tgt := 1656) hx hb d_L_law_578 rfl ?_
    exact kk _ _ _ hI (lv_sub hl [2, 3, 4, 5, 6] rfl)
  · refine lv_aload_n hx hb d_L_law_559 rfl (lv_at hl 5 rfl) ?_
    refine lv_iconst (v := 0) hx hb d_L_law_560 rfl ?_
    refine va_lald hx hb hK hI.2.2.1 0 3 rfl rfl (show ¬ ((0 : Int32) < 0 ∨ 1 ≤ (0 : Int32).toNatClampNeg) by decide) d_L_law_561 ?_
    refine lv_iload hx hb d_L_law_562 (lv_at hl 0 rfl) ?_
    refine lw_boolL hx hb d_L_law_564 d_L_law_567 d_L_law_568 d_L_law_571 ?_
    refine W.lcmp hx hb d_L_law_572 ?_
    have hz : lg_cmp (o' (0 : Int32).toNatClampNeg) (zl r) = 0 := by
      rw [show (0 : Int32).toNatClampNeg = 0 by decide, he h0]; exact lg_self _
    refine lv_if_eq (tgt := 578) hx hb d_L_law_573 rfl (fun _ => ?_) (fun h => absurd hz h)
    refine lv_goto (tgt := 1656) hx hb d_L_law_578 rfl ?_
    exact kk _ _ _ hI (lv_sub hl [2, 3, 4, 5, 6] rfl)
theorem lwS_4 {p : Program} {l : Launch} {e : Env} {s : State} {m : MethodId} {below : List Frame} {meth : Method} {c : Code} {H : Heap} {locs : List Loc} {cells slots : Nat} {Q : State → Prop} {ls : Array Slot} {b L n : Nat} {xs : Nat → Int32} {G : va_G} {c3 : ClassId × ClassId × ClassId} {cL : ClassId} {adX adM : Nat → Nat} {ao : Nat} {X Y : Mem} {o : Nat → Int64} {R : Mem → Mem → Prop} (C : LFix p l s m meth c b L xs G c3 cL adX adM ao) (hI : LInv s G c3 cL adX adM ao X Y o H locs) (hn : n + 5 ≤ L) (hl : lv_has ls 7 [(0, .ref b), (1, .ref (adX 0)), (2, .ref (adM 0)), (3, .ref ao), (4, .int (nI n))]) (hf : cells + 1 ≤ room_1.cells ∧ slots + 6 ≤ room_1.slots) (hs : simW2 R (fE_rule (xs (n + 1)) (xs (n + 2)) (xs (n + 3)) (zb (xs (n + 4)))) (kE_rule (xs (n + 1)) (xs (n + 2)) (xs (n + 3)) (zb (xs (n + 4)))) 2 (fM_rule (xs (n + 1)) (xs (n + 2)) (xs (n + 3)) (zb (xs (n + 4)))) X Y)
    (kk : ∀ (X1 Y1 : Mem) (o1 : Nat → Int64) (H1 : Heap) (locs1 : List Loc) (ls1 : Array Slot), R X1 Y1 → LInv s G c3 cL adX adM ao X1 Y1 o1 H1 locs1 → lv_has ls1 7 [(0, .ref b), (1, .ref (adX 0)), (2, .ref (adM 0)), (3, .ref ao), (4, .int (nI n))] → W p l e room_1 s m #[Value.ref b] below meth c H1 locs1 (cells + 1) (slots + 6) Q (F0 m 1656 ls1 [])) : W p l e room_1 s m #[Value.ref b] below meth c H locs cells slots Q (F0 m 466 ls []) := by
  obtain ⟨F, hT, hK, hX, hdX, hdM, g1, g2, g3, g4, g5, g6, hXs, hbl, hL, hfl, hr, hlk⟩ := id C
  rcases hs with hs | hs | hs
  · obtain ⟨r, X', Y', e1, e2, ht, hR⟩ := hs
    exact lwC_4 C hI hn hl hf (hL_rule l s.heap.size G c3 cL adX hdX ao g5 X o (xs (n + 1)) (xs (n + 2)) (xs (n + 3)) (zb (xs (n + 4))) r X' e1) e2 ht (fun _ => if_pos rfl) (fun H1 locs1 ls1 h1 h2 => kk _ _ _ H1 locs1 ls1 hR h1 h2)
  · obtain ⟨r, Y', e1, e2, ht, hR⟩ := hs
    exact lwC_4 C hI hn hl hf (hL_rule_x1 l hfl s.heap.size G c3 cL adX hdX ao g5 X o (xs (n + 1)) (xs (n + 2)) (xs (n + 3)) (zb (xs (n + 4))) e1) e2 ht (fun h0 => absurd h0 (by decide)) (fun H1 locs1 ls1 h1 h2 => kk _ _ _ H1 locs1 ls1 hR h1 h2)
  · obtain ⟨r, Y', e1, e2, ht, hR⟩ := hs
    exact lwC_4 C hI hn hl hf (hL_rule_x2 l hfl s.heap.size G c3 cL adX hdX ao g5 X o (xs (n + 1)) (xs (n + 2)) (xs (n + 3)) (zb (xs (n + 4))) e1) e2 ht (fun h0 => absurd h0 (by decide)) (fun H1 locs1 ls1 h1 h2 => kk _ _ _ H1 locs1 ls1 hR h1 h2)
set_option maxHeartbeats 4000000 in
set_option maxRecDepth 100000 in
theorem lwC_5 {p : Program} {l : Launch} {e : Env} {s : State} {m : MethodId} {below : List Frame} {meth : Method} {c : Code} {H : Heap} {locs : List Loc} {cells slots : Nat} {Q : State → Prop} {ls : Array Slot} {b L n : Nat} {xs : Nat → Int32} {G : va_G} {c3 : ClassId × ClassId × ClassId} {cL : ClassId} {adX adM : Nat → Nat} {ao : Nat} {X X' Y Y' : Mem} {o o' : Nat → Int64} (C : LFix p l s m meth c b L xs G c3 cL adX adM ao) (hI : LInv s G c3 cL adX adM ao X Y o H locs) (hn : n + 5 ≤ L) (hl : lv_has ls 7 [(0, .ref b), (1, .ref (adX 0)), (2, .ref (adM 0)), (3, .ref ao), (4, .int (nI n))]) (hf : cells + 1 ≤ room_1.cells ∧ slots + 6 ≤ room_1.slots) {k : Int32} (hM : LMet l yL_fix cL_fix 5 [((0), (10), (13), (13))] (rm1_ 8 133) s.heap.size G c3 cL adX ao X o [.ref (adX 0), .int (xs (n + 1)), .int (xs (n + 2)), .ref ao] k X' o') {r : Int32} (hm : fM_fix (xs (n + 1)) (xs (n + 2)) Y = some (r, Y')) (ht : Y' 0 0 = k) (he : k = 0 → o' 0 = r.toInt64) 
    (kk : ∀ (H1 : Heap) (locs1 : List Loc) (ls1 : Array Slot), LInv s G c3 cL adX adM ao X' Y' o' H1 locs1 → lv_has ls1 7 [(0, .ref b), (1, .ref (adX 0)), (2, .ref (adM 0)), (3, .ref ao), (4, .int (nI n))] → W p l e room_1 s m #[Value.ref b] below meth c H1 locs1 (cells + 1) (slots + 6) Q (F0 m 1656 ls1 [])) : W p l e room_1 s m #[Value.ref b] below meth c H locs cells slots Q (F0 m 581 ls []) := by
  have C' := C
  obtain ⟨F, hT, hK, hX, hdX, hdM, g1, g2, g3, g4, g5, g6, hXs, hbl, hL, hfl, hr, hlk⟩ := C'
  have hx := F.1
  have hb := F.2.1
  refine lv_aload_n hx hb d_L_law_581 rfl (lv_at hl 1 rfl) ?_
  refine lw_arg hx hb hXs hbl hI.2.2.2 hl (p0 := 0) (p4 := 4) (n := n) rfl rfl 1 (ki := 1) rfl (by omega) hL d_L_law_582 d_L_law_583 d_L_law_585 d_L_law_586 d_L_law_587 ?_
  refine lw_arg hx hb hXs hbl hI.2.2.2 hl (p0 := 0) (p4 := 4) (n := n) rfl rfl 2 (ki := 2) rfl (by omega) hL d_L_law_588 d_L_law_589 d_L_law_591 d_L_law_592 d_L_law_593 ?_
  refine lv_aload_n hx hb d_L_law_594 rfl (lv_at hl 3 rfl) ?_
  refine lw_help C hI hM wl_L_110 ws_L_fix wn_L wc_L_fix ck_L_fix ⟨rfl, rfl⟩ ⟨by decide, by decide⟩ hf hl.1 (rest := []) rfl (Nat.le_of_ble_eq_true rfl) d_L_law_595 (fun H locs hI => ?_)
  refine lv_istore (lv' := [(5, .int k), (0, .ref b), (1, .ref (adX 0)), (2, .ref (adM 0)), (3, .ref ao), (4, .int (nI n))]) hx hb d_L_law_598 hl (by decide) rfl (fun ls hl => ?_)
  refine lv_aload_n hx hb d_L_law_600 rfl (lv_at hl 3 rfl) ?_
  refine lw_arg hx hb hXs hbl hI.2.2.2 hl (p0 := 1) (p4 := 5) (n := n) rfl rfl 1 (ki := 1) rfl (by omega) hL d_L_law_601 d_L_law_602 d_L_law_604 d_L_law_605 d_L_law_606 ?_
  refine lw_arg hx hb hXs hbl hI.2.2.2 hl (p0 := 1) (p4 := 5) (n := n) rfl rfl 2 (ki := 2) rfl (by omega) hL d_L_law_607 d_L_law_608 d_L_law_610 d_L_law_611 d_L_law_612 ?_
  refine lw_mod C hI (tM_fix l G c3 adM hdM Y (xs (n + 1)) (xs (n + 2)) r Y' hm) rfl wl_L_112 wi_M_fix we_M_fix wn_M wc_M_fix ck_M_fix ⟨rfl, rfl⟩ ⟨by decide, by decide⟩ ⟨hf.1, hf.2⟩ hl.1 (rest := []) rfl (Nat.le_of_ble_eq_true rfl) d_L_law_613 (fun H locs hI => ?_)
  refine lv_istore (lv' := [(6, .int r), (5, .int k), (0, .ref b), (1, .ref (adX 0)), (2, .ref (adM 0)), (3, .ref ao), (4, .int (nI n))]) hx hb d_L_law_616 hl (by decide) rfl (fun ls hl => ?_)
  refine lv_aload_n hx hb d_L_law_618 rfl (lv_at hl 4 rfl) ?_
  refine xc_rv (rest := []) F hT (ty4_3 hK) hI.2.1 (tM_thrown l G c3 adM Y' _ rfl) sM_0 rfl wl_L_91 wi_M_thrown we_M_thrown wn_M wc_M_thrown ck_M_thrown ⟨rfl, rfl⟩ ⟨by decide, by decide⟩ ⟨hf.1, hf.2⟩ hl.1 rfl (Nat.le_of_ble_eq_true rfl) d_L_law_619 ?_
  refine lv_iload hx hb d_L_law_622 (lv_at hl 1 rfl) ?_
  refine lv_icmp_eq (tgt := 629) hx hb d_L_law_624 rfl (fun _ => ?_) (fun h => absurd ht h)
  refine lv_iload hx hb d_L_law_629 (lv_at hl 1 rfl) ?_
  refine lv_if_ne (tgt := 646) hx hb d_L_law_631 rfl (fun _ => ?_) (fun h0 => ?_)
  · refine lv_goto (tgt := 1656) hx hb d_L_law_646 rfl ?_
    exact kk _ _ _ hI (lv_sub hl [2, 3, 4, 5, 6] rfl)
  · refine lv_aload_n hx hb d_L_law_634 rfl (lv_at hl 5 rfl) ?_
    refine lv_iconst (v := 0) hx hb d_L_law_635 rfl ?_
    refine va_lald hx hb hK hI.2.2.1 0 3 rfl rfl (show ¬ ((0 : Int32) < 0 ∨ 1 ≤ (0 : Int32).toNatClampNeg) by decide) d_L_law_636 ?_
    refine lv_iload hx hb d_L_law_637 (lv_at hl 0 rfl) ?_
    refine lv_i2l hx hb d_L_law_639 rfl ?_
    refine W.lcmp hx hb d_L_law_640 ?_
    have hz : lg_cmp (o' (0 : Int32).toNatClampNeg) r.toInt64 = 0 := by
      rw [show (0 : Int32).toNatClampNeg = 0 by decide, he h0]; exact lg_self _
    refine lv_if_eq (tgt := 646) hx hb d_L_law_641 rfl (fun _ => ?_) (fun h => absurd hz h)
    refine lv_goto (tgt := 1656) hx hb d_L_law_646 rfl ?_
    exact kk _ _ _ hI (lv_sub hl [2, 3, 4, 5, 6] rfl)
theorem lwS_5 {p : Program} {l : Launch} {e : Env} {s : State} {m : MethodId} {below : List Frame} {meth : Method} {c : Code} {H : Heap} {locs : List Loc} {cells slots : Nat} {Q : State → Prop} {ls : Array Slot} {b L n : Nat} {xs : Nat → Int32} {G : va_G} {c3 : ClassId × ClassId × ClassId} {cL : ClassId} {adX adM : Nat → Nat} {ao : Nat} {X Y : Mem} {o : Nat → Int64} {R : Mem → Mem → Prop} (C : LFix p l s m meth c b L xs G c3 cL adX adM ao) (hI : LInv s G c3 cL adX adM ao X Y o H locs) (hn : n + 5 ≤ L) (hl : lv_has ls 7 [(0, .ref b), (1, .ref (adX 0)), (2, .ref (adM 0)), (3, .ref ao), (4, .int (nI n))]) (hf : cells + 1 ≤ room_1.cells ∧ slots + 6 ≤ room_1.slots) (hs : simW1 R (fE_fix (xs (n + 1)) (xs (n + 2))) (kE_fix (xs (n + 1)) (xs (n + 2))) (fM_fix (xs (n + 1)) (xs (n + 2))) X Y)
    (kk : ∀ (X1 Y1 : Mem) (o1 : Nat → Int64) (H1 : Heap) (locs1 : List Loc) (ls1 : Array Slot), R X1 Y1 → LInv s G c3 cL adX adM ao X1 Y1 o1 H1 locs1 → lv_has ls1 7 [(0, .ref b), (1, .ref (adX 0)), (2, .ref (adM 0)), (3, .ref ao), (4, .int (nI n))] → W p l e room_1 s m #[Value.ref b] below meth c H1 locs1 (cells + 1) (slots + 6) Q (F0 m 1656 ls1 [])) : W p l e room_1 s m #[Value.ref b] below meth c H locs cells slots Q (F0 m 581 ls []) := by
  obtain ⟨F, hT, hK, hX, hdX, hdM, g1, g2, g3, g4, g5, g6, hXs, hbl, hL, hfl, hr, hlk⟩ := id C
  rcases hs with hs | hs
  · obtain ⟨r, X', Y', e1, e2, ht, hR⟩ := hs
    exact lwC_5 C hI hn hl hf (hL_fix l s.heap.size G c3 cL adX hdX ao g5 X o (xs (n + 1)) (xs (n + 2)) r X' e1) e2 ht (fun _ => if_pos rfl) (fun H1 locs1 ls1 h1 h2 => kk _ _ _ H1 locs1 ls1 hR h1 h2)
  · obtain ⟨r, Y', e1, e2, ht, hR⟩ := hs
    exact lwC_5 C hI hn hl hf (hL_fix_x1 l hfl s.heap.size G c3 cL adX hdX ao g5 X o (xs (n + 1)) (xs (n + 2)) e1) e2 ht (fun h0 => absurd h0 (by decide)) (fun H1 locs1 ls1 h1 h2 => kk _ _ _ H1 locs1 ls1 hR h1 h2)
set_option maxHeartbeats 4000000 in
set_option maxRecDepth 100000 in
theorem lwC_6 {p : Program} {l : Launch} {e : Env} {s : State} {m : MethodId} {below : List Frame} {meth : Method} {c : Code} {H : Heap} {locs : List Loc} {cells slots : Nat} {Q : State → Prop} {ls : Array Slot} {b L n : Nat} {xs : Nat → Int32} {G : va_G} {c3 : ClassId × ClassId × ClassId} {cL : ClassId} {adX adM : Nat → Nat} {ao : Nat} {X X' Y Y' : Mem} {o o' : Nat → Int64} (C : LFix p l s m meth c b L xs G c3 cL adX adM ao) (hI : LInv s G c3 cL adX adM ao X Y o H locs) (hn : n + 5 ≤ L) (hl : lv_has ls 7 [(0, .ref b), (1, .ref (adX 0)), (2, .ref (adM 0)), (3, .ref ao), (4, .int (nI n))]) (hf : cells + 1 ≤ room_1.cells ∧ slots + 6 ≤ room_1.slots) {k : Int32} (hM : LMet l yL_clash cL_clash 5 [((0), (10), (13), (13))] (rm1_ 8 132) s.heap.size G c3 cL adX ao X o [.ref (adX 0), .int (xs (n + 1)), .int (xs (n + 2)), .ref ao] k X' o') {r : Int32} (hm : fM_clash (xs (n + 1)) (xs (n + 2)) Y = some (r, Y')) (ht : Y' 0 0 = k) (he : k = 0 → o' 0 = r.toInt64) 
    (kk : ∀ (H1 : Heap) (locs1 : List Loc) (ls1 : Array Slot), LInv s G c3 cL adX adM ao X' Y' o' H1 locs1 → lv_has ls1 7 [(0, .ref b), (1, .ref (adX 0)), (2, .ref (adM 0)), (3, .ref ao), (4, .int (nI n))] → W p l e room_1 s m #[Value.ref b] below meth c H1 locs1 (cells + 1) (slots + 6) Q (F0 m 1656 ls1 [])) : W p l e room_1 s m #[Value.ref b] below meth c H locs cells slots Q (F0 m 649 ls []) := by
  have C' := C
  obtain ⟨F, hT, hK, hX, hdX, hdM, g1, g2, g3, g4, g5, g6, hXs, hbl, hL, hfl, hr, hlk⟩ := C'
  have hx := F.1
  have hb := F.2.1
  refine lv_aload_n hx hb d_L_law_649 rfl (lv_at hl 1 rfl) ?_
  refine lw_arg hx hb hXs hbl hI.2.2.2 hl (p0 := 0) (p4 := 4) (n := n) rfl rfl 1 (ki := 1) rfl (by omega) hL d_L_law_650 d_L_law_651 d_L_law_653 d_L_law_654 d_L_law_655 ?_
  refine lw_arg hx hb hXs hbl hI.2.2.2 hl (p0 := 0) (p4 := 4) (n := n) rfl rfl 2 (ki := 2) rfl (by omega) hL d_L_law_656 d_L_law_657 d_L_law_659 d_L_law_660 d_L_law_661 ?_
  refine lv_aload_n hx hb d_L_law_662 rfl (lv_at hl 3 rfl) ?_
  refine lw_help C hI hM wl_L_113 ws_L_clash wn_L wc_L_clash ck_L_clash ⟨rfl, rfl⟩ ⟨by decide, by decide⟩ hf hl.1 (rest := []) rfl (Nat.le_of_ble_eq_true rfl) d_L_law_663 (fun H locs hI => ?_)
  refine lv_istore (lv' := [(5, .int k), (0, .ref b), (1, .ref (adX 0)), (2, .ref (adM 0)), (3, .ref ao), (4, .int (nI n))]) hx hb d_L_law_666 hl (by decide) rfl (fun ls hl => ?_)
  refine lv_aload_n hx hb d_L_law_668 rfl (lv_at hl 3 rfl) ?_
  refine lw_arg hx hb hXs hbl hI.2.2.2 hl (p0 := 1) (p4 := 5) (n := n) rfl rfl 1 (ki := 1) rfl (by omega) hL d_L_law_669 d_L_law_670 d_L_law_672 d_L_law_673 d_L_law_674 ?_
  refine lw_arg hx hb hXs hbl hI.2.2.2 hl (p0 := 1) (p4 := 5) (n := n) rfl rfl 2 (ki := 2) rfl (by omega) hL d_L_law_675 d_L_law_676 d_L_law_678 d_L_law_679 d_L_law_680 ?_
  refine lw_mod C hI (tM_clash l G c3 adM hdM Y (xs (n + 1)) (xs (n + 2)) r Y' hm) rfl wl_L_115 wi_M_clash we_M_clash wn_M wc_M_clash ck_M_clash ⟨rfl, rfl⟩ ⟨by decide, by decide⟩ ⟨hf.1, hf.2⟩ hl.1 (rest := []) rfl (Nat.le_of_ble_eq_true rfl) d_L_law_681 (fun H locs hI => ?_)
  refine lv_istore (lv' := [(6, .int r), (5, .int k), (0, .ref b), (1, .ref (adX 0)), (2, .ref (adM 0)), (3, .ref ao), (4, .int (nI n))]) hx hb d_L_law_684 hl (by decide) rfl (fun ls hl => ?_)
  refine lv_aload_n hx hb d_L_law_686 rfl (lv_at hl 4 rfl) ?_
  refine xc_rv (rest := []) F hT (ty4_3 hK) hI.2.1 (tM_thrown l G c3 adM Y' _ rfl) sM_0 rfl wl_L_91 wi_M_thrown we_M_thrown wn_M wc_M_thrown ck_M_thrown ⟨rfl, rfl⟩ ⟨by decide, by decide⟩ ⟨hf.1, hf.2⟩ hl.1 rfl (Nat.le_of_ble_eq_true rfl) d_L_law_687 ?_
  refine lv_iload hx hb d_L_law_690 (lv_at hl 1 rfl) ?_
  refine lv_icmp_eq (tgt := 697) hx hb d_L_law_692 rfl (fun _ => ?_) (fun h => absurd ht h)
  refine lv_iload hx hb d_L_law_697 (lv_at hl 1 rfl) ?_
  refine lv_if_ne (tgt := 714) hx hb d_L_law_699 rfl (fun _ => ?_) (fun h0 => ?_)
  · refine lv_goto (tgt := 1656) hx hb d_L_law_714 rfl ?_
    exact kk _ _ _ hI (lv_sub hl [2, 3, 4, 5, 6] rfl)
  · refine lv_aload_n hx hb d_L_law_702 rfl (lv_at hl 5 rfl) ?_
    refine lv_iconst (v := 0) hx hb d_L_law_703 rfl ?_
    refine va_lald hx hb hK hI.2.2.1 0 3 rfl rfl (show ¬ ((0 : Int32) < 0 ∨ 1 ≤ (0 : Int32).toNatClampNeg) by decide) d_L_law_704 ?_
    refine lv_iload hx hb d_L_law_705 (lv_at hl 0 rfl) ?_
    refine lv_i2l hx hb d_L_law_707 rfl ?_
    refine W.lcmp hx hb d_L_law_708 ?_
    have hz : lg_cmp (o' (0 : Int32).toNatClampNeg) r.toInt64 = 0 := by
      rw [show (0 : Int32).toNatClampNeg = 0 by decide, he h0]; exact lg_self _
    refine lv_if_eq (tgt := 714) hx hb d_L_law_709 rfl (fun _ => ?_) (fun h => absurd hz h)
    refine lv_goto (tgt := 1656) hx hb d_L_law_714 rfl ?_
    exact kk _ _ _ hI (lv_sub hl [2, 3, 4, 5, 6] rfl)
theorem lwS_6 {p : Program} {l : Launch} {e : Env} {s : State} {m : MethodId} {below : List Frame} {meth : Method} {c : Code} {H : Heap} {locs : List Loc} {cells slots : Nat} {Q : State → Prop} {ls : Array Slot} {b L n : Nat} {xs : Nat → Int32} {G : va_G} {c3 : ClassId × ClassId × ClassId} {cL : ClassId} {adX adM : Nat → Nat} {ao : Nat} {X Y : Mem} {o : Nat → Int64} {R : Mem → Mem → Prop} (C : LFix p l s m meth c b L xs G c3 cL adX adM ao) (hI : LInv s G c3 cL adX adM ao X Y o H locs) (hn : n + 5 ≤ L) (hl : lv_has ls 7 [(0, .ref b), (1, .ref (adX 0)), (2, .ref (adM 0)), (3, .ref ao), (4, .int (nI n))]) (hf : cells + 1 ≤ room_1.cells ∧ slots + 6 ≤ room_1.slots) (hs : simR1 R (fE_clash (xs (n + 1)) (xs (n + 2))) (kE_clash (xs (n + 1)) (xs (n + 2))) 1 (fM_clash (xs (n + 1)) (xs (n + 2))) X Y)
    (kk : ∀ (X1 Y1 : Mem) (o1 : Nat → Int64) (H1 : Heap) (locs1 : List Loc) (ls1 : Array Slot), R X1 Y1 → LInv s G c3 cL adX adM ao X1 Y1 o1 H1 locs1 → lv_has ls1 7 [(0, .ref b), (1, .ref (adX 0)), (2, .ref (adM 0)), (3, .ref ao), (4, .int (nI n))] → W p l e room_1 s m #[Value.ref b] below meth c H1 locs1 (cells + 1) (slots + 6) Q (F0 m 1656 ls1 [])) : W p l e room_1 s m #[Value.ref b] below meth c H locs cells slots Q (F0 m 649 ls []) := by
  obtain ⟨F, hT, hK, hX, hdX, hdM, g1, g2, g3, g4, g5, g6, hXs, hbl, hL, hfl, hr, hlk⟩ := id C
  rcases hs with hs | hs
  · obtain ⟨r, Y', e1, e2, ht, hR⟩ := hs
    exact lwC_6 C hI hn hl hf (hL_clash l s.heap.size G c3 cL adX hdX ao g5 X o (xs (n + 1)) (xs (n + 2)) r e1) e2 ht (fun _ => if_pos rfl) (fun H1 locs1 ls1 h1 h2 => kk _ _ _ H1 locs1 ls1 hR h1 h2)
  · obtain ⟨r, Y', e1, e2, ht, hR⟩ := hs
    exact lwC_6 C hI hn hl hf (hL_clash_x1 l hfl s.heap.size G c3 cL adX hdX ao g5 X o (xs (n + 1)) (xs (n + 2)) e1) e2 ht (fun h0 => absurd h0 (by decide)) (fun H1 locs1 ls1 h1 h2 => kk _ _ _ H1 locs1 ls1 hR h1 h2)
set_option maxHeartbeats 4000000 in
set_option maxRecDepth 100000 in
theorem lwS_7 {p : Program} {l : Launch} {e : Env} {s : State} {m : MethodId} {below : List Frame} {meth : Method} {c : Code} {H : Heap} {locs : List Loc} {cells slots : Nat} {Q : State → Prop} {ls : Array Slot} {b L n : Nat} {xs : Nat → Int32} {G : va_G} {c3 : ClassId × ClassId × ClassId} {cL : ClassId} {adX adM : Nat → Nat} {ao : Nat} {X Y : Mem} {o : Nat → Int64} {R : Mem → Mem → Prop} (C : LFix p l s m meth c b L xs G c3 cL adX adM ao) (hI : LInv s G c3 cL adX adM ao X Y o H locs) (hn : n + 5 ≤ L) (hl : lv_has ls 7 [(0, .ref b), (1, .ref (adX 0)), (2, .ref (adM 0)), (3, .ref ao), (4, .int (nI n))]) (hf : cells + 1 ≤ room_1.cells ∧ slots + 6 ≤ room_1.slots) (hs : simP R fE_plan fM_plan X Y)
    (kk : ∀ (X1 Y1 : Mem) (o1 : Nat → Int64) (H1 : Heap) (locs1 : List Loc) (ls1 : Array Slot), R X1 Y1 → LInv s G c3 cL adX adM ao X1 Y1 o1 H1 locs1 → lv_has ls1 7 [(0, .ref b), (1, .ref (adX 0)), (2, .ref (adM 0)), (3, .ref ao), (4, .int (nI n))] → W p l e room_1 s m #[Value.ref b] below meth c H1 locs1 (cells + 1) (slots + 6) Q (F0 m 1656 ls1 [])) : W p l e room_1 s m #[Value.ref b] below meth c H locs cells slots Q (F0 m 717 ls []) := by
  obtain ⟨F, hT, hK, hX, hdX, hdM, g1, g2, g3, g4, g5, g6, hXs, hbl, hL, hfl, hr, hlk⟩ := id C
  have hx := F.1
  have hb := F.2.1
  obtain ⟨r, X', Y', e1, e2, hR⟩ := hs
  refine W.widen (k := cells + 1) (n := slots + 6) (by omega) (by omega) ?_
  refine lv_aload_n hx hb d_L_law_717 rfl (lv_at hl 1 rfl) ?_
  refine lw_cls C hI (tE_plan l G c3 adX hdX X r X' e1) rfl wl_L_116 wi_E_plan we_E_plan wn_E wc_E_plan ck_E_plan ⟨rfl, rfl⟩ ⟨by decide, by decide⟩ ⟨hf.1, hf.2⟩ hl.1 (rest := []) rfl (Nat.le_of_ble_eq_true rfl) d_L_law_718 (fun H locs hI => ?_)
  refine lv_aload_n hx hb d_L_law_721 rfl (lv_at hl 2 rfl) ?_
  refine lw_mod C hI (tM_plan l G c3 adM hdM Y r Y' e2) rfl wl_L_119 wi_M_plan we_M_plan wn_M wc_M_plan ck_M_plan ⟨rfl, rfl⟩ ⟨by decide, by decide⟩ ⟨hf.1, hf.2⟩ hl.1 (rest := [.int r]) rfl (Nat.le_of_ble_eq_true rfl) d_L_law_722 (fun H locs hI => ?_)
  refine lv_icmp_eq (tgt := 1656) hx hb d_L_law_725 rfl (fun _ => ?_) (fun h => absurd rfl h)
  exact kk _ _ _ H locs ls hR hI hl
set_option maxHeartbeats 4000000 in
set_option maxRecDepth 100000 in
theorem lwC_8 {p : Program} {l : Launch} {e : Env} {s : State} {m : MethodId} {below : List Frame} {meth : Method} {c : Code} {H : Heap} {locs : List Loc} {cells slots : Nat} {Q : State → Prop} {ls : Array Slot} {b L n : Nat} {xs : Nat → Int32} {G : va_G} {c3 : ClassId × ClassId × ClassId} {cL : ClassId} {adX adM : Nat → Nat} {ao : Nat} {X X' Y Y' : Mem} {o o' : Nat → Int64} (C : LFix p l s m meth c b L xs G c3 cL adX adM ao) (hI : LInv s G c3 cL adX adM ao X Y o H locs) (hn : n + 5 ≤ L) (hl : lv_has ls 7 [(0, .ref b), (1, .ref (adX 0)), (2, .ref (adM 0)), (3, .ref ao), (4, .int (nI n))]) (hf : cells + 1 ≤ room_1.cells ∧ slots + 6 ≤ room_1.slots) {k : Int32} (hM : LMet l yL_planned cL_planned 4 [((0), (9), (12), (13))] (rm1_ 8 131) s.heap.size G c3 cL adX ao X o [.ref (adX 0), .int (xs (n + 1)), .ref ao] k X' o') {r : Int32} (hm : fM_planned (xs (n + 1)) Y = some (r, Y')) (ht : Y' 0 0 = k) (he : k = 0 → o' 0 = r.toInt64) 
    (kk : ∀ (H1 : Heap) (locs1 : List Loc) (ls1 : Array Slot), LInv s G c3 cL adX adM ao X' Y' o' H1 locs1 → lv_has ls1 7 [(0, .ref b), (1, .ref (adX 0)), (2, .ref (adM 0)), (3, .ref ao), (4, .int (nI n))] → W p l e room_1 s m #[Value.ref b] below meth c H1 locs1 (cells + 1) (slots + 6) Q (F0 m 1656 ls1 [])) : W p l e room_1 s m #[Value.ref b] below meth c H locs cells slots Q (F0 m 730 ls []) := by
  have C' := C
  obtain ⟨F, hT, hK, hX, hdX, hdM, g1, g2, g3, g4, g5, g6, hXs, hbl, hL, hfl, hr, hlk⟩ := C'
  have hx := F.1
  have hb := F.2.1
  refine lv_aload_n hx hb d_L_law_730 rfl (lv_at hl 1 rfl) ?_
  refine lw_arg hx hb hXs hbl hI.2.2.2 hl (p0 := 0) (p4 := 4) (n := n) rfl rfl 1 (ki := 1) rfl (by omega) hL d_L_law_731 d_L_law_732 d_L_law_734 d_L_law_735 d_L_law_736 ?_
  refine lv_aload_n hx hb d_L_law_737 rfl (lv_at hl 3 rfl) ?_
  refine lw_help C hI hM wl_L_120 ws_L_planned wn_L wc_L_planned ck_L_planned ⟨rfl, rfl⟩ ⟨by decide, by decide⟩ hf hl.1 (rest := []) rfl (Nat.le_of_ble_eq_true rfl) d_L_law_738 (fun H locs hI => ?_)
  refine lv_istore (lv' := [(5, .int k), (0, .ref b), (1, .ref (adX 0)), (2, .ref (adM 0)), (3, .ref ao), (4, .int (nI n))]) hx hb d_L_law_741 hl (by decide) rfl (fun ls hl => ?_)
  refine lv_aload_n hx hb d_L_law_743 rfl (lv_at hl 3 rfl) ?_
  refine lw_arg hx hb hXs hbl hI.2.2.2 hl (p0 := 1) (p4 := 5) (n := n) rfl rfl 1 (ki := 1) rfl (by omega) hL d_L_law_744 d_L_law_745 d_L_law_747 d_L_law_748 d_L_law_749 ?_
  refine lw_mod C hI (tM_planned l G c3 adM hdM Y (xs (n + 1)) r Y' hm) rfl wl_L_123 wi_M_planned we_M_planned wn_M wc_M_planned ck_M_planned ⟨rfl, rfl⟩ ⟨by decide, by decide⟩ ⟨hf.1, hf.2⟩ hl.1 (rest := []) rfl (Nat.le_of_ble_eq_true rfl) d_L_law_750 (fun H locs hI => ?_)
  refine lv_istore (lv' := [(6, .int r), (5, .int k), (0, .ref b), (1, .ref (adX 0)), (2, .ref (adM 0)), (3, .ref ao), (4, .int (nI n))]) hx hb d_L_law_753 hl (by decide) rfl (fun ls hl => ?_)
  refine lv_aload_n hx hb d_L_law_755 rfl (lv_at hl 4 rfl) ?_
  refine xc_rv (rest := []) F hT (ty4_3 hK) hI.2.1 (tM_thrown l G c3 adM Y' _ rfl) sM_0 rfl wl_L_91 wi_M_thrown we_M_thrown wn_M wc_M_thrown ck_M_thrown ⟨rfl, rfl⟩ ⟨by decide, by decide⟩ ⟨hf.1, hf.2⟩ hl.1 rfl (Nat.le_of_ble_eq_true rfl) d_L_law_756 ?_
  refine lv_iload hx hb d_L_law_759 (lv_at hl 1 rfl) ?_
  refine lv_icmp_eq (tgt := 766) hx hb d_L_law_761 rfl (fun _ => ?_) (fun h => absurd ht h)
  refine lv_iload hx hb d_L_law_766 (lv_at hl 1 rfl) ?_
  refine lv_if_ne (tgt := 783) hx hb d_L_law_768 rfl (fun _ => ?_) (fun h0 => ?_)
  · refine lv_goto (tgt := 1656) hx hb d_L_law_783 rfl ?_
    exact kk _ _ _ hI (lv_sub hl [2, 3, 4, 5, 6] rfl)
  · refine lv_aload_n hx hb d_L_law_771 rfl (lv_at hl 5 rfl) ?_
    refine lv_iconst (v := 0) hx hb d_L_law_772 rfl ?_
    refine va_lald hx hb hK hI.2.2.1 0 3 rfl rfl (show ¬ ((0 : Int32) < 0 ∨ 1 ≤ (0 : Int32).toNatClampNeg) by decide) d_L_law_773 ?_
    refine lv_iload hx hb d_L_law_774 (lv_at hl 0 rfl) ?_
    refine lv_i2l hx hb d_L_law_776 rfl ?_
    refine W.lcmp hx hb d_L_law_777 ?_
    have hz : lg_cmp (o' (0 : Int32).toNatClampNeg) r.toInt64 = 0 := by
      rw [show (0 : Int32).toNatClampNeg = 0 by decide, he h0]; exact lg_self _
    refine lv_if_eq (tgt := 783) hx hb d_L_law_778 rfl (fun _ => ?_) (fun h => absurd hz h)
    refine lv_goto (tgt := 1656) hx hb d_L_law_783 rfl ?_
    exact kk _ _ _ hI (lv_sub hl [2, 3, 4, 5, 6] rfl)
theorem lwS_8 {p : Program} {l : Launch} {e : Env} {s : State} {m : MethodId} {below : List Frame} {meth : Method} {c : Code} {H : Heap} {locs : List Loc} {cells slots : Nat} {Q : State → Prop} {ls : Array Slot} {b L n : Nat} {xs : Nat → Int32} {G : va_G} {c3 : ClassId × ClassId × ClassId} {cL : ClassId} {adX adM : Nat → Nat} {ao : Nat} {X Y : Mem} {o : Nat → Int64} {R : Mem → Mem → Prop} (C : LFix p l s m meth c b L xs G c3 cL adX adM ao) (hI : LInv s G c3 cL adX adM ao X Y o H locs) (hn : n + 5 ≤ L) (hl : lv_has ls 7 [(0, .ref b), (1, .ref (adX 0)), (2, .ref (adM 0)), (3, .ref ao), (4, .int (nI n))]) (hf : cells + 1 ≤ room_1.cells ∧ slots + 6 ≤ room_1.slots) (hs : simR1 R (fE_planned (xs (n + 1))) (kE_planned (xs (n + 1))) 1 (fM_planned (xs (n + 1))) X Y)
    (kk : ∀ (X1 Y1 : Mem) (o1 : Nat → Int64) (H1 : Heap) (locs1 : List Loc) (ls1 : Array Slot), R X1 Y1 → LInv s G c3 cL adX adM ao X1 Y1 o1 H1 locs1 → lv_has ls1 7 [(0, .ref b), (1, .ref (adX 0)), (2, .ref (adM 0)), (3, .ref ao), (4, .int (nI n))] → W p l e room_1 s m #[Value.ref b] below meth c H1 locs1 (cells + 1) (slots + 6) Q (F0 m 1656 ls1 [])) : W p l e room_1 s m #[Value.ref b] below meth c H locs cells slots Q (F0 m 730 ls []) := by
  obtain ⟨F, hT, hK, hX, hdX, hdM, g1, g2, g3, g4, g5, g6, hXs, hbl, hL, hfl, hr, hlk⟩ := id C
  rcases hs with hs | hs
  · obtain ⟨r, Y', e1, e2, ht, hR⟩ := hs
    exact lwC_8 C hI hn hl hf (hL_planned l s.heap.size G c3 cL adX hdX ao g5 X o (xs (n + 1)) r e1) e2 ht (fun _ => if_pos rfl) (fun H1 locs1 ls1 h1 h2 => kk _ _ _ H1 locs1 ls1 hR h1 h2)
  · obtain ⟨r, Y', e1, e2, ht, hR⟩ := hs
    exact lwC_8 C hI hn hl hf (hL_planned_x1 l hfl s.heap.size G c3 cL adX hdX ao g5 X o (xs (n + 1)) e1) e2 ht (fun h0 => absurd h0 (by decide)) (fun H1 locs1 ls1 h1 h2 => kk _ _ _ H1 locs1 ls1 hR h1 h2)
set_option maxHeartbeats 4000000 in
set_option maxRecDepth 100000 in
theorem lwS_9 {p : Program} {l : Launch} {e : Env} {s : State} {m : MethodId} {below : List Frame} {meth : Method} {c : Code} {H : Heap} {locs : List Loc} {cells slots : Nat} {Q : State → Prop} {ls : Array Slot} {b L n : Nat} {xs : Nat → Int32} {G : va_G} {c3 : ClassId × ClassId × ClassId} {cL : ClassId} {adX adM : Nat → Nat} {ao : Nat} {X Y : Mem} {o : Nat → Int64} {R : Mem → Mem → Prop} (C : LFix p l s m meth c b L xs G c3 cL adX adM ao) (hI : LInv s G c3 cL adX adM ao X Y o H locs) (hn : n + 5 ≤ L) (hl : lv_has ls 7 [(0, .ref b), (1, .ref (adX 0)), (2, .ref (adM 0)), (3, .ref ao), (4, .int (nI n))]) (hf : cells + 1 ≤ room_1.cells ∧ slots + 6 ≤ room_1.slots) (hs : simS R fE_strain fM_strain X Y)
    (kk : ∀ (X1 Y1 : Mem) (o1 : Nat → Int64) (H1 : Heap) (locs1 : List Loc) (ls1 : Array Slot), R X1 Y1 → LInv s G c3 cL adX adM ao X1 Y1 o1 H1 locs1 → lv_has ls1 7 [(0, .ref b), (1, .ref (adX 0)), (2, .ref (adM 0)), (3, .ref ao), (4, .int (nI n))] → W p l e room_1 s m #[Value.ref b] below meth c H1 locs1 (cells + 1) (slots + 6) Q (F0 m 1656 ls1 [])) : W p l e room_1 s m #[Value.ref b] below meth c H locs cells slots Q (F0 m 786 ls []) := by
  obtain ⟨F, hT, hK, hX, hdX, hdM, g1, g2, g3, g4, g5, g6, hXs, hbl, hL, hfl, hr, hlk⟩ := id C
  have hx := F.1
  have hb := F.2.1
  obtain ⟨r, Y', e1, e2, hR⟩ := hs
  refine W.widen (k := cells + 1) (n := slots + 6) (by omega) (by omega) ?_
  refine lv_aload_n hx hb d_L_law_786 rfl (lv_at hl 1 rfl) ?_
  refine xc_rv (rest := []) F hT (ty4_3 hK) hI.1 (tE_strain l G c3 adX X r e1) sX_0 rfl wl_L_124 wi_E_strain we_E_strain wn_E wc_E_strain ck_E_strain ⟨rfl, rfl⟩ ⟨by decide, by decide⟩ ⟨hf.1, hf.2⟩ hl.1 rfl (Nat.le_of_ble_eq_true rfl) d_L_law_787 ?_
  refine lv_aload_n hx hb d_L_law_790 rfl (lv_at hl 2 rfl) ?_
  refine lw_mod C hI (tM_strain l G c3 adM hdM Y r Y' e2) rfl wl_L_127 wi_M_strain we_M_strain wn_M wc_M_strain ck_M_strain ⟨rfl, rfl⟩ ⟨by decide, by decide⟩ ⟨hf.1, hf.2⟩ hl.1 (rest := [.int r]) rfl (Nat.le_of_ble_eq_true rfl) d_L_law_791 (fun H locs hI => ?_)
  refine lv_icmp_eq (tgt := 1656) hx hb d_L_law_794 rfl (fun _ => ?_) (fun h => absurd rfl h)
  exact kk _ _ _ H locs ls hR hI hl
set_option maxHeartbeats 4000000 in
set_option maxRecDepth 100000 in
theorem lwC_10 {p : Program} {l : Launch} {e : Env} {s : State} {m : MethodId} {below : List Frame} {meth : Method} {c : Code} {H : Heap} {locs : List Loc} {cells slots : Nat} {Q : State → Prop} {ls : Array Slot} {b L n : Nat} {xs : Nat → Int32} {G : va_G} {c3 : ClassId × ClassId × ClassId} {cL : ClassId} {adX adM : Nat → Nat} {ao : Nat} {X X' Y Y' : Mem} {o o' : Nat → Int64} (C : LFix p l s m meth c b L xs G c3 cL adX adM ao) (hI : LInv s G c3 cL adX adM ao X Y o H locs) (hn : n + 5 ≤ L) (hl : lv_has ls 7 [(0, .ref b), (1, .ref (adX 0)), (2, .ref (adM 0)), (3, .ref ao), (4, .int (nI n))]) (hf : cells + 1 ≤ room_1.cells ∧ slots + 6 ≤ room_1.slots) {k : Int32} (hM : LMet l yL_room cL_room 6 [((0), (9), (12), (13)), ((0), (9), (16), (15))] (rm1_ 8 134) s.heap.size G c3 cL adX ao X o [.ref (adX 0), .int (xs (n + 1)), .int (xs (n + 2)), .int (xs (n + 3)), .int (zb (xs (n + 4)))] k X' o') (hm : fM_room (xs (n + 1)) (xs (n + 2)) (xs (n + 3)) (zb (xs (n + 4))) Y = some Y') (ht : Y' 0 0 = k) 
    (kk : ∀ (H1 : Heap) (locs1 : List Loc) (ls1 : Array Slot), LInv s G c3 cL adX adM ao X' Y' o' H1 locs1 → lv_has ls1 7 [(0, .ref b), (1, .ref (adX 0)), (2, .ref (adM 0)), (3, .ref ao), (4, .int (nI n))] → W p l e room_1 s m #[Value.ref b] below meth c H1 locs1 (cells + 1) (slots + 6) Q (F0 m 1656 ls1 [])) : W p l e room_1 s m #[Value.ref b] below meth c H locs cells slots Q (F0 m 799 ls []) := by
  have C' := C
  obtain ⟨F, hT, hK, hX, hdX, hdM, g1, g2, g3, g4, g5, g6, hXs, hbl, hL, hfl, hr, hlk⟩ := C'
  have hx := F.1
  have hb := F.2.1
  refine lv_aload_n hx hb d_L_law_799 rfl (lv_at hl 1 rfl) ?_
  refine lw_arg hx hb hXs hbl hI.2.2.2 hl (p0 := 0) (p4 := 4) (n := n) rfl rfl 1 (ki := 1) rfl (by omega) hL d_L_law_800 d_L_law_801 d_L_law_803 d_L_law_804 d_L_law_805 ?_
  refine lw_arg hx hb hXs hbl hI.2.2.2 hl (p0 := 0) (p4 := 4) (n := n) rfl rfl 2 (ki := 2) rfl (by omega) hL d_L_law_806 d_L_law_807 d_L_law_809 d_L_law_810 d_L_law_811 ?_
  refine lw_arg hx hb hXs hbl hI.2.2.2 hl (p0 := 0) (p4 := 4) (n := n) rfl rfl 3 (ki := 3) rfl (by omega) hL d_L_law_812 d_L_law_813 d_L_law_815 d_L_law_816 d_L_law_817 ?_
  refine lw_arg hx hb hXs hbl hI.2.2.2 hl (p0 := 0) (p4 := 4) (n := n) rfl rfl 4 (ki := 4) rfl (by omega) hL d_L_law_818 d_L_law_819 d_L_law_821 d_L_law_822 d_L_law_823 ?_
  refine lw_bool hx hb d_L_law_824 d_L_law_827 d_L_law_828 d_L_law_831 ?_
  refine lw_help C hI hM wl_L_128 ws_L_room wn_L wc_L_room ck_L_room ⟨rfl, rfl⟩ ⟨by decide, by decide⟩ hf hl.1 (rest := []) rfl (Nat.le_of_ble_eq_true rfl) d_L_law_832 (fun H locs hI => ?_)
  refine lv_istore (lv' := [(5, .int k), (0, .ref b), (1, .ref (adX 0)), (2, .ref (adM 0)), (3, .ref ao), (4, .int (nI n))]) hx hb d_L_law_835 hl (by decide) rfl (fun ls hl => ?_)
  refine lv_aload_n hx hb d_L_law_837 rfl (lv_at hl 3 rfl) ?_
  refine lw_arg hx hb hXs hbl hI.2.2.2 hl (p0 := 1) (p4 := 5) (n := n) rfl rfl 1 (ki := 1) rfl (by omega) hL d_L_law_838 d_L_law_839 d_L_law_841 d_L_law_842 d_L_law_843 ?_
  refine lw_arg hx hb hXs hbl hI.2.2.2 hl (p0 := 1) (p4 := 5) (n := n) rfl rfl 2 (ki := 2) rfl (by omega) hL d_L_law_844 d_L_law_845 d_L_law_847 d_L_law_848 d_L_law_849 ?_
  refine lw_arg hx hb hXs hbl hI.2.2.2 hl (p0 := 1) (p4 := 5) (n := n) rfl rfl 3 (ki := 3) rfl (by omega) hL d_L_law_850 d_L_law_851 d_L_law_853 d_L_law_854 d_L_law_855 ?_
  refine lw_arg hx hb hXs hbl hI.2.2.2 hl (p0 := 1) (p4 := 5) (n := n) rfl rfl 4 (ki := 4) rfl (by omega) hL d_L_law_856 d_L_law_857 d_L_law_859 d_L_law_860 d_L_law_861 ?_
  refine lw_bool hx hb d_L_law_862 d_L_law_865 d_L_law_866 d_L_law_869 ?_
  refine lw_mod C hI (tM_room l G c3 adM hdM Y (xs (n + 1)) (xs (n + 2)) (xs (n + 3)) (zb (xs (n + 4))) Y' hm) rfl wl_L_131 wi_M_room we_M_room wn_M wc_M_room ck_M_room ⟨rfl, rfl⟩ ⟨by decide, by decide⟩ ⟨hf.1, hf.2⟩ hl.1 (rest := []) rfl (Nat.le_of_ble_eq_true rfl) d_L_law_870 (fun H locs hI => ?_)
  refine lv_aload_n hx hb d_L_law_873 rfl (lv_at hl 3 rfl) ?_
  refine xc_rv (rest := []) F hT (ty4_3 hK) hI.2.1 (tM_thrown l G c3 adM Y' _ rfl) sM_0 rfl wl_L_91 wi_M_thrown we_M_thrown wn_M wc_M_thrown ck_M_thrown ⟨rfl, rfl⟩ ⟨by decide, by decide⟩ ⟨hf.1, hf.2⟩ hl.1 rfl (Nat.le_of_ble_eq_true rfl) d_L_law_874 ?_
  refine lv_iload hx hb d_L_law_877 (lv_at hl 0 rfl) ?_
  refine lv_icmp_eq (tgt := 884) hx hb d_L_law_879 rfl (fun _ => ?_) (fun h => absurd ht h)
  refine lv_goto (tgt := 1656) hx hb d_L_law_884 rfl ?_
  exact kk _ _ _ hI (lv_sub hl [1, 2, 3, 4, 5] rfl)
theorem lwS_10 {p : Program} {l : Launch} {e : Env} {s : State} {m : MethodId} {below : List Frame} {meth : Method} {c : Code} {H : Heap} {locs : List Loc} {cells slots : Nat} {Q : State → Prop} {ls : Array Slot} {b L n : Nat} {xs : Nat → Int32} {G : va_G} {c3 : ClassId × ClassId × ClassId} {cL : ClassId} {adX adM : Nat → Nat} {ao : Nat} {X Y : Mem} {o : Nat → Int64} {R : Mem → Mem → Prop} (C : LFix p l s m meth c b L xs G c3 cL adX adM ao) (hI : LInv s G c3 cL adX adM ao X Y o H locs) (hn : n + 5 ≤ L) (hl : lv_has ls 7 [(0, .ref b), (1, .ref (adX 0)), (2, .ref (adM 0)), (3, .ref ao), (4, .int (nI n))]) (hf : cells + 1 ≤ room_1.cells ∧ slots + 6 ≤ room_1.slots) (hs : simV2 R (fE_room (xs (n + 1)) (xs (n + 2)) (xs (n + 3)) (zb (xs (n + 4)))) (kE_room (xs (n + 1)) (xs (n + 2)) (xs (n + 3)) (zb (xs (n + 4)))) 2 (fM_room (xs (n + 1)) (xs (n + 2)) (xs (n + 3)) (zb (xs (n + 4)))) X Y)
    (kk : ∀ (X1 Y1 : Mem) (o1 : Nat → Int64) (H1 : Heap) (locs1 : List Loc) (ls1 : Array Slot), R X1 Y1 → LInv s G c3 cL adX adM ao X1 Y1 o1 H1 locs1 → lv_has ls1 7 [(0, .ref b), (1, .ref (adX 0)), (2, .ref (adM 0)), (3, .ref ao), (4, .int (nI n))] → W p l e room_1 s m #[Value.ref b] below meth c H1 locs1 (cells + 1) (slots + 6) Q (F0 m 1656 ls1 [])) : W p l e room_1 s m #[Value.ref b] below meth c H locs cells slots Q (F0 m 799 ls []) := by
  obtain ⟨F, hT, hK, hX, hdX, hdM, g1, g2, g3, g4, g5, g6, hXs, hbl, hL, hfl, hr, hlk⟩ := id C
  rcases hs with hs | hs | hs
  · obtain ⟨X', Y', e1, e2, ht, hR⟩ := hs
    exact lwC_10 C hI hn hl hf (hL_room l s.heap.size G c3 cL adX hdX ao g5 X o (xs (n + 1)) (xs (n + 2)) (xs (n + 3)) (zb (xs (n + 4))) X' e1) e2 ht (fun H1 locs1 ls1 h1 h2 => kk _ _ _ H1 locs1 ls1 hR h1 h2)
  · obtain ⟨Y', e1, e2, ht, hR⟩ := hs
    exact lwC_10 C hI hn hl hf (hL_room_x1 l hfl s.heap.size G c3 cL adX hdX ao g5 X o (xs (n + 1)) (xs (n + 2)) (xs (n + 3)) (zb (xs (n + 4))) e1) e2 ht (fun H1 locs1 ls1 h1 h2 => kk _ _ _ H1 locs1 ls1 hR h1 h2)
  · obtain ⟨Y', e1, e2, ht, hR⟩ := hs
    exact lwC_10 C hI hn hl hf (hL_room_x2 l hfl s.heap.size G c3 cL adX hdX ao g5 X o (xs (n + 1)) (xs (n + 2)) (xs (n + 3)) (zb (xs (n + 4))) e1) e2 ht (fun H1 locs1 ls1 h1 h2 => kk _ _ _ H1 locs1 ls1 hR h1 h2)
set_option maxHeartbeats 4000000 in
set_option maxRecDepth 100000 in
theorem lwC_11 {p : Program} {l : Launch} {e : Env} {s : State} {m : MethodId} {below : List Frame} {meth : Method} {c : Code} {H : Heap} {locs : List Loc} {cells slots : Nat} {Q : State → Prop} {ls : Array Slot} {b L n : Nat} {xs : Nat → Int32} {G : va_G} {c3 : ClassId × ClassId × ClassId} {cL : ClassId} {adX adM : Nat → Nat} {ao : Nat} {X X' Y Y' : Mem} {o o' : Nat → Int64} (C : LFix p l s m meth c b L xs G c3 cL adX adM ao) (hI : LInv s G c3 cL adX adM ao X Y o H locs) (hn : n + 5 ≤ L) (hl : lv_has ls 7 [(0, .ref b), (1, .ref (adX 0)), (2, .ref (adM 0)), (3, .ref ao), (4, .int (nI n))]) (hf : cells + 1 ≤ room_1.cells ∧ slots + 6 ≤ room_1.slots) {k : Int32} (hM : LMet l yL_block cL_block 7 [((0), (21), (24), (13)), ((0), (21), (28), (49))] (rm1_ 8 136) s.heap.size G c3 cL adX ao X o [.ref (adX 0), .int (xs (n + 1)), .int (xs (n + 2)), .int (xs (n + 3)), .int (zb (xs (n + 4))), .ref ao] k X' o') {r : Int32} (hm : fM_block (xs (n + 1)) (xs (n + 2)) (xs (n + 3)) (zb (xs (n + 4))) Y = some (r, Y')) (ht : Y' 0 0 = k) (he : k = 0 → o' 0 = zl r) 
    (kk : ∀ (H1 : Heap) (locs1 : List Loc) (ls1 : Array Slot), LInv s G c3 cL adX adM ao X' Y' o' H1 locs1 → lv_has ls1 7 [(0, .ref b), (1, .ref (adX 0)), (2, .ref (adM 0)), (3, .ref ao), (4, .int (nI n))] → W p l e room_1 s m #[Value.ref b] below meth c H1 locs1 (cells + 1) (slots + 6) Q (F0 m 1656 ls1 [])) : W p l e room_1 s m #[Value.ref b] below meth c H locs cells slots Q (F0 m 887 ls []) := by
  have C' := C
  obtain ⟨F, hT, hK, hX, hdX, hdM, g1, g2, g3, g4, g5, g6, hXs, hbl, hL, hfl, hr, hlk⟩ := C'
  have hx := F.1
  have hb := F.2.1
  refine lv_aload_n hx hb d_L_law_887 rfl (lv_at hl 1 rfl) ?_
  refine lw_arg hx hb hXs hbl hI.2.2.2 hl (p0 := 0) (p4 := 4) (n := n) rfl rfl 1 (ki := 1) rfl (by omega) hL d_L_law_888 d_L_law_889 d_L_law_891 d_L_law_892 d_L_law_893 ?_
  refine lw_arg hx hb hXs hbl hI.2.2.2 hl (p0 := 0) (p4 := 4) (n := n) rfl rfl 2 (ki := 2) rfl (by omega) hL d_L_law_894 d_L_law_895 d_L_law_897 d_L_law_898 d_L_law_899 ?_
  refine lw_arg hx hb hXs hbl hI.2.2.2 hl (p0 := 0) (p4 := 4) (n := n) rfl rfl 3 (ki := 3) rfl (by omega) hL d_L_law_900 d_L_law_901 d_L_law_903 d_L_law_904 d_L_law_905 ?_
  refine lw_arg hx hb hXs hbl hI.2.2.2 hl (p0 := 0) (p4 := 4) (n := n) rfl rfl 4 (ki := 4) rfl (by omega) hL d_L_law_906 d_L_law_907 d_L_law_909 d_L_law_910 d_L_law_911 ?_
  refine lw_bool hx hb d_L_law_912 d_L_law_915 d_L_law_916 d_L_law_919 ?_
  refine lv_aload_n hx hb d_L_law_920 rfl (lv_at hl 3 rfl) ?_
  refine lw_help C hI hM wl_L_132 ws_L_block wn_L wc_L_block ck_L_block ⟨rfl, rfl⟩ ⟨by decide, by decide⟩ hf hl.1 (rest := []) rfl (Nat.le_of_ble_eq_true rfl) d_L_law_921 (fun H locs hI => ?_)
  refine lv_istore (lv' := [(5, .int k), (0, .ref b), (1, .ref (adX 0)), (2, .ref (adM 0)), (3, .ref ao), (4, .int (nI n))]) hx hb d_L_law_924 hl (by decide) rfl (fun ls hl => ?_)
  refine lv_aload_n hx hb d_L_law_926 rfl (lv_at hl 3 rfl) ?_
  refine lw_arg hx hb hXs hbl hI.2.2.2 hl (p0 := 1) (p4 := 5) (n := n) rfl rfl 1 (ki := 1) rfl (by omega) hL d_L_law_927 d_L_law_928 d_L_law_930 d_L_law_931 d_L_law_932 ?_
  refine lw_arg hx hb hXs hbl hI.2.2.2 hl (p0 := 1) (p4 := 5) (n := n) rfl rfl 2 (ki := 2) rfl (by omega) hL d_L_law_933 d_L_law_934 d_L_law_936 d_L_law_937 d_L_law_938 ?_
  refine lw_arg hx hb hXs hbl hI.2.2.2 hl (p0 := 1) (p4 := 5) (n := n) rfl rfl 3 (ki := 3) rfl (by omega) hL d_L_law_939 d_L_law_940 d_L_law_942 d_L_law_943 d_L_law_944 ?_
  refine lw_arg hx hb hXs hbl hI.2.2.2 hl (p0 := 1) (p4 := 5) (n := n) rfl rfl 4 (ki := 4) rfl (by omega) hL d_L_law_945 d_L_law_946 d_L_law_948 d_L_law_949 d_L_law_950 ?_
  refine lw_bool hx hb d_L_law_951 d_L_law_954 d_L_law_955 d_L_law_958 ?_
  refine lw_mod C hI (tM_block l G c3 adM hdM Y (xs (n + 1)) (xs (n + 2)) (xs (n + 3)) (zb (xs (n + 4))) r Y' hm) rfl wl_L_134 wi_M_block we_M_block wn_M wc_M_block ck_M_block ⟨rfl, rfl⟩ ⟨by decide, by decide⟩ ⟨hf.1, hf.2⟩ hl.1 (rest := []) rfl (Nat.le_of_ble_eq_true rfl) d_L_law_959 (fun H locs hI => ?_)
  refine lv_istore (lv' := [(6, .int r), (5, .int k), (0, .ref b), (1, .ref (adX 0)), (2, .ref (adM 0)), (3, .ref ao), (4, .int (nI n))]) hx hb d_L_law_962 hl (by decide) rfl (fun ls hl => ?_)
  refine lv_aload_n hx hb d_L_law_964 rfl (lv_at hl 4 rfl) ?_
  refine xc_rv (rest := []) F hT (ty4_3 hK) hI.2.1 (tM_thrown l G c3 adM Y' _ rfl) sM_0 rfl wl_L_91 wi_M_thrown we_M_thrown wn_M wc_M_thrown ck_M_thrown ⟨rfl, rfl⟩ ⟨by decide, by decide⟩ ⟨hf.1, hf.2⟩ hl.1 rfl (Nat.le_of_ble_eq_true rfl) d_L_law_965 ?_
  refine lv_iload hx hb d_L_law_968 (lv_at hl 1 rfl) ?_
  refine lv_icmp_eq (tgt := 975) hx hb d_L_law_970 rfl (fun _ => ?_) (fun h => absurd ht h)
  refine lv_iload hx hb d_L_law_975 (lv_at hl 1 rfl) ?_
  refine lv_if_ne (tgt := 999) hx hb d_L_law_977 rfl (fun _ => ?_) (fun h0 => ?_)
  · refine lv_goto (tgt := 1656) hx hb d_L_law_999 rfl ?_
    exact kk _ _ _ hI (lv_sub hl [2, 3, 4, 5, 6] rfl)
  · refine lv_aload_n hx hb d_L_law_980 rfl (lv_at hl 5 rfl) ?_
    refine lv_iconst (v := 0) hx hb d_L_law_981 rfl ?_
    refine va_lald hx hb hK hI.2.2.1 0 3 rfl rfl (show ¬ ((0 : Int32) < 0 ∨ 1 ≤ (0 : Int32).toNatClampNeg) by decide) d_L_law_982 ?_
    refine lv_iload hx hb d_L_law_983 (lv_at hl 0 rfl) ?_
    refine lw_boolL hx hb d_L_law_985 d_L_law_988 d_L_law_989 d_L_law_992 ?_
    refine W.lcmp hx hb d_L_law_993 ?_
    have hz : lg_cmp (o' (0 : Int32).toNatClampNeg) (zl r) = 0 := by
      rw [show (0 : Int32).toNatClampNeg = 0 by decide, he h0]; exact lg_self _
    refine lv_if_eq (tgt := 999) hx hb d_L_law_994 rfl (fun _ => ?_) (fun h => absurd hz h)
    refine lv_goto (tgt := 1656) hx hb d_L_law_999 rfl ?_
    exact kk _ _ _ hI (lv_sub hl [2, 3, 4, 5, 6] rfl)
theorem lwS_11 {p : Program} {l : Launch} {e : Env} {s : State} {m : MethodId} {below : List Frame} {meth : Method} {c : Code} {H : Heap} {locs : List Loc} {cells slots : Nat} {Q : State → Prop} {ls : Array Slot} {b L n : Nat} {xs : Nat → Int32} {G : va_G} {c3 : ClassId × ClassId × ClassId} {cL : ClassId} {adX adM : Nat → Nat} {ao : Nat} {X Y : Mem} {o : Nat → Int64} {R : Mem → Mem → Prop} (C : LFix p l s m meth c b L xs G c3 cL adX adM ao) (hI : LInv s G c3 cL adX adM ao X Y o H locs) (hn : n + 5 ≤ L) (hl : lv_has ls 7 [(0, .ref b), (1, .ref (adX 0)), (2, .ref (adM 0)), (3, .ref ao), (4, .int (nI n))]) (hf : cells + 1 ≤ room_1.cells ∧ slots + 6 ≤ room_1.slots) (hs : simW2 R (fE_block (xs (n + 1)) (xs (n + 2)) (xs (n + 3)) (zb (xs (n + 4)))) (kE_block (xs (n + 1)) (xs (n + 2)) (xs (n + 3)) (zb (xs (n + 4)))) 3 (fM_block (xs (n + 1)) (xs (n + 2)) (xs (n + 3)) (zb (xs (n + 4)))) X Y)
    (kk : ∀ (X1 Y1 : Mem) (o1 : Nat → Int64) (H1 : Heap) (locs1 : List Loc) (ls1 : Array Slot), R X1 Y1 → LInv s G c3 cL adX adM ao X1 Y1 o1 H1 locs1 → lv_has ls1 7 [(0, .ref b), (1, .ref (adX 0)), (2, .ref (adM 0)), (3, .ref ao), (4, .int (nI n))] → W p l e room_1 s m #[Value.ref b] below meth c H1 locs1 (cells + 1) (slots + 6) Q (F0 m 1656 ls1 [])) : W p l e room_1 s m #[Value.ref b] below meth c H locs cells slots Q (F0 m 887 ls []) := by
  obtain ⟨F, hT, hK, hX, hdX, hdM, g1, g2, g3, g4, g5, g6, hXs, hbl, hL, hfl, hr, hlk⟩ := id C
  rcases hs with hs | hs | hs
  · obtain ⟨r, X', Y', e1, e2, ht, hR⟩ := hs
    exact lwC_11 C hI hn hl hf (hL_block l s.heap.size G c3 cL adX hdX ao g5 X o (xs (n + 1)) (xs (n + 2)) (xs (n + 3)) (zb (xs (n + 4))) r X' e1) e2 ht (fun _ => if_pos rfl) (fun H1 locs1 ls1 h1 h2 => kk _ _ _ H1 locs1 ls1 hR h1 h2)
  · obtain ⟨r, Y', e1, e2, ht, hR⟩ := hs
    exact lwC_11 C hI hn hl hf (hL_block_x1 l hfl s.heap.size G c3 cL adX hdX ao g5 X o (xs (n + 1)) (xs (n + 2)) (xs (n + 3)) (zb (xs (n + 4))) e1) e2 ht (fun h0 => absurd h0 (by decide)) (fun H1 locs1 ls1 h1 h2 => kk _ _ _ H1 locs1 ls1 hR h1 h2)
  · obtain ⟨r, Y', e1, e2, ht, hR⟩ := hs
    exact lwC_11 C hI hn hl hf (hL_block_x3 l hfl s.heap.size G c3 cL adX hdX ao g5 X o (xs (n + 1)) (xs (n + 2)) (xs (n + 3)) (zb (xs (n + 4))) e1) e2 ht (fun h0 => absurd h0 (by decide)) (fun H1 locs1 ls1 h1 h2 => kk _ _ _ H1 locs1 ls1 hR h1 h2)
set_option maxHeartbeats 4000000 in
set_option maxRecDepth 100000 in
theorem lwC_12 {p : Program} {l : Launch} {e : Env} {s : State} {m : MethodId} {below : List Frame} {meth : Method} {c : Code} {H : Heap} {locs : List Loc} {cells slots : Nat} {Q : State → Prop} {ls : Array Slot} {b L n : Nat} {xs : Nat → Int32} {G : va_G} {c3 : ClassId × ClassId × ClassId} {cL : ClassId} {adX adM : Nat → Nat} {ao : Nat} {X X' Y Y' : Mem} {o o' : Nat → Int64} (C : LFix p l s m meth c b L xs G c3 cL adX adM ao) (hI : LInv s G c3 cL adX adM ao X Y o H locs) (hn : n + 5 ≤ L) (hl : lv_has ls 7 [(0, .ref b), (1, .ref (adX 0)), (2, .ref (adM 0)), (3, .ref ao), (4, .int (nI n))]) (hf : cells + 1 ≤ room_1.cells ∧ slots + 6 ≤ room_1.slots) {k : Int32} (hM : LMet l yL_seat cL_seat 4 [((0), (9), (12), (13)), ((0), (9), (15), (49))] (rm1_ 8 170) s.heap.size G c3 cL adX ao X o [.ref (adX 0), .int (xs (n + 1)), .ref ao] k X' o') {r : Int32} (hm : fM_seat (xs (n + 1)) Y = some (r, Y')) (ht : Y' 0 0 = k) (he : k = 0 → o' 0 = r.toInt64) 
    (kk : ∀ (H1 : Heap) (locs1 : List Loc) (ls1 : Array Slot), LInv s G c3 cL adX adM ao X' Y' o' H1 locs1 → lv_has ls1 7 [(0, .ref b), (1, .ref (adX 0)), (2, .ref (adM 0)), (3, .ref ao), (4, .int (nI n))] → W p l e room_1 s m #[Value.ref b] below meth c H1 locs1 (cells + 1) (slots + 6) Q (F0 m 1656 ls1 [])) : W p l e room_1 s m #[Value.ref b] below meth c H locs cells slots Q (F0 m 1002 ls []) := by
  have C' := C
  obtain ⟨F, hT, hK, hX, hdX, hdM, g1, g2, g3, g4, g5, g6, hXs, hbl, hL, hfl, hr, hlk⟩ := C'
  have hx := F.1
  have hb := F.2.1
  refine lv_aload_n hx hb d_L_law_1002 rfl (lv_at hl 1 rfl) ?_
  refine lw_arg hx hb hXs hbl hI.2.2.2 hl (p0 := 0) (p4 := 4) (n := n) rfl rfl 1 (ki := 1) rfl (by omega) hL d_L_law_1003 d_L_law_1004 d_L_law_1006 d_L_law_1007 d_L_law_1008 ?_
  refine lv_aload_n hx hb d_L_law_1009 rfl (lv_at hl 3 rfl) ?_
  refine lw_help C hI hM wl_L_135 ws_L_seat wn_L wc_L_seat ck_L_seat ⟨rfl, rfl⟩ ⟨by decide, by decide⟩ hf hl.1 (rest := []) rfl (Nat.le_of_ble_eq_true rfl) d_L_law_1010 (fun H locs hI => ?_)
  refine lv_istore (lv' := [(5, .int k), (0, .ref b), (1, .ref (adX 0)), (2, .ref (adM 0)), (3, .ref ao), (4, .int (nI n))]) hx hb d_L_law_1013 hl (by decide) rfl (fun ls hl => ?_)
  refine lv_aload_n hx hb d_L_law_1015 rfl (lv_at hl 3 rfl) ?_
  refine lw_arg hx hb hXs hbl hI.2.2.2 hl (p0 := 1) (p4 := 5) (n := n) rfl rfl 1 (ki := 1) rfl (by omega) hL d_L_law_1016 d_L_law_1017 d_L_law_1019 d_L_law_1020 d_L_law_1021 ?_
  refine lw_mod C hI (tM_seat l G c3 adM hdM Y (xs (n + 1)) r Y' hm) rfl wl_L_137 wi_M_seat we_M_seat wn_M wc_M_seat ck_M_seat ⟨rfl, rfl⟩ ⟨by decide, by decide⟩ ⟨hf.1, hf.2⟩ hl.1 (rest := []) rfl (Nat.le_of_ble_eq_true rfl) d_L_law_1022 (fun H locs hI => ?_)
  refine lv_istore (lv' := [(6, .int r), (5, .int k), (0, .ref b), (1, .ref (adX 0)), (2, .ref (adM 0)), (3, .ref ao), (4, .int (nI n))]) hx hb d_L_law_1025 hl (by decide) rfl (fun ls hl => ?_)
  refine lv_aload_n hx hb d_L_law_1027 rfl (lv_at hl 4 rfl) ?_
  refine xc_rv (rest := []) F hT (ty4_3 hK) hI.2.1 (tM_thrown l G c3 adM Y' _ rfl) sM_0 rfl wl_L_91 wi_M_thrown we_M_thrown wn_M wc_M_thrown ck_M_thrown ⟨rfl, rfl⟩ ⟨by decide, by decide⟩ ⟨hf.1, hf.2⟩ hl.1 rfl (Nat.le_of_ble_eq_true rfl) d_L_law_1028 ?_
  refine lv_iload hx hb d_L_law_1031 (lv_at hl 1 rfl) ?_
  refine lv_icmp_eq (tgt := 1038) hx hb d_L_law_1033 rfl (fun _ => ?_) (fun h => absurd ht h)
  refine lv_iload hx hb d_L_law_1038 (lv_at hl 1 rfl) ?_
  refine lv_if_ne (tgt := 1055) hx hb d_L_law_1040 rfl (fun _ => ?_) (fun h0 => ?_)
  · refine lv_goto (tgt := 1656) hx hb d_L_law_1055 rfl ?_
    exact kk _ _ _ hI (lv_sub hl [2, 3, 4, 5, 6] rfl)
  · refine lv_aload_n hx hb d_L_law_1043 rfl (lv_at hl 5 rfl) ?_
    refine lv_iconst (v := 0) hx hb d_L_law_1044 rfl ?_
    refine va_lald hx hb hK hI.2.2.1 0 3 rfl rfl (show ¬ ((0 : Int32) < 0 ∨ 1 ≤ (0 : Int32).toNatClampNeg) by decide) d_L_law_1045 ?_
    refine lv_iload hx hb d_L_law_1046 (lv_at hl 0 rfl) ?_
    refine lv_i2l hx hb d_L_law_1048 rfl ?_
    refine W.lcmp hx hb d_L_law_1049 ?_
    have hz : lg_cmp (o' (0 : Int32).toNatClampNeg) r.toInt64 = 0 := by
      rw [show (0 : Int32).toNatClampNeg = 0 by decide, he h0]; exact lg_self _
    refine lv_if_eq (tgt := 1055) hx hb d_L_law_1050 rfl (fun _ => ?_) (fun h => absurd hz h)
    refine lv_goto (tgt := 1656) hx hb d_L_law_1055 rfl ?_
    exact kk _ _ _ hI (lv_sub hl [2, 3, 4, 5, 6] rfl)
theorem lwS_12 {p : Program} {l : Launch} {e : Env} {s : State} {m : MethodId} {below : List Frame} {meth : Method} {c : Code} {H : Heap} {locs : List Loc} {cells slots : Nat} {Q : State → Prop} {ls : Array Slot} {b L n : Nat} {xs : Nat → Int32} {G : va_G} {c3 : ClassId × ClassId × ClassId} {cL : ClassId} {adX adM : Nat → Nat} {ao : Nat} {X Y : Mem} {o : Nat → Int64} {R : Mem → Mem → Prop} (C : LFix p l s m meth c b L xs G c3 cL adX adM ao) (hI : LInv s G c3 cL adX adM ao X Y o H locs) (hn : n + 5 ≤ L) (hl : lv_has ls 7 [(0, .ref b), (1, .ref (adX 0)), (2, .ref (adM 0)), (3, .ref ao), (4, .int (nI n))]) (hf : cells + 1 ≤ room_1.cells ∧ slots + 6 ≤ room_1.slots) (hs : simW2 R (fE_seat (xs (n + 1))) (kE_seat (xs (n + 1))) 3 (fM_seat (xs (n + 1))) X Y)
    (kk : ∀ (X1 Y1 : Mem) (o1 : Nat → Int64) (H1 : Heap) (locs1 : List Loc) (ls1 : Array Slot), R X1 Y1 → LInv s G c3 cL adX adM ao X1 Y1 o1 H1 locs1 → lv_has ls1 7 [(0, .ref b), (1, .ref (adX 0)), (2, .ref (adM 0)), (3, .ref ao), (4, .int (nI n))] → W p l e room_1 s m #[Value.ref b] below meth c H1 locs1 (cells + 1) (slots + 6) Q (F0 m 1656 ls1 [])) : W p l e room_1 s m #[Value.ref b] below meth c H locs cells slots Q (F0 m 1002 ls []) := by
  obtain ⟨F, hT, hK, hX, hdX, hdM, g1, g2, g3, g4, g5, g6, hXs, hbl, hL, hfl, hr, hlk⟩ := id C
  rcases hs with hs | hs | hs
  · obtain ⟨r, X', Y', e1, e2, ht, hR⟩ := hs
    exact lwC_12 C hI hn hl hf (hL_seat l s.heap.size G c3 cL adX hdX ao g5 X o (xs (n + 1)) r X' e1) e2 ht (fun _ => if_pos rfl) (fun H1 locs1 ls1 h1 h2 => kk _ _ _ H1 locs1 ls1 hR h1 h2)
  · obtain ⟨r, Y', e1, e2, ht, hR⟩ := hs
    exact lwC_12 C hI hn hl hf (hL_seat_x1 l hfl s.heap.size G c3 cL adX hdX ao g5 X o (xs (n + 1)) e1) e2 ht (fun h0 => absurd h0 (by decide)) (fun H1 locs1 ls1 h1 h2 => kk _ _ _ H1 locs1 ls1 hR h1 h2)
  · obtain ⟨r, Y', e1, e2, ht, hR⟩ := hs
    exact lwC_12 C hI hn hl hf (hL_seat_x3 l hfl s.heap.size G c3 cL adX hdX ao g5 X o (xs (n + 1)) e1) e2 ht (fun h0 => absurd h0 (by decide)) (fun H1 locs1 ls1 h1 h2 => kk _ _ _ H1 locs1 ls1 hR h1 h2)
set_option maxHeartbeats 4000000 in
set_option maxRecDepth 100000 in
theorem lwC_13 {p : Program} {l : Launch} {e : Env} {s : State} {m : MethodId} {below : List Frame} {meth : Method} {c : Code} {H : Heap} {locs : List Loc} {cells slots : Nat} {Q : State → Prop} {ls : Array Slot} {b L n : Nat} {xs : Nat → Int32} {G : va_G} {c3 : ClassId × ClassId × ClassId} {cL : ClassId} {adX adM : Nat → Nat} {ao : Nat} {X X' Y Y' : Mem} {o o' : Nat → Int64} (C : LFix p l s m meth c b L xs G c3 cL adX adM ao) (hI : LInv s G c3 cL adX adM ao X Y o H locs) (hn : n + 5 ≤ L) (hl : lv_has ls 7 [(0, .ref b), (1, .ref (adX 0)), (2, .ref (adM 0)), (3, .ref ao), (4, .int (nI n))]) (hf : cells + 1 ≤ room_1.cells ∧ slots + 6 ≤ room_1.slots) {k : Int32} (hM : LMet l yL_leave cL_leave 5 [((0), (10), (13), (13))] (rm1_ 8 133) s.heap.size G c3 cL adX ao X o [.ref (adX 0), .int (xs (n + 1)), .int (xs (n + 2)), .ref ao] k X' o') {r : Int32} (hm : fM_leave (xs (n + 1)) (xs (n + 2)) Y = some (r, Y')) (ht : Y' 0 0 = k) (he : k = 0 → o' 0 = r.toInt64) 
    (kk : ∀ (H1 : Heap) (locs1 : List Loc) (ls1 : Array Slot), LInv s G c3 cL adX adM ao X' Y' o' H1 locs1 → lv_has ls1 7 [(0, .ref b), (1, .ref (adX 0)), (2, .ref (adM 0)), (3, .ref ao), (4, .int (nI n))] → W p l e room_1 s m #[Value.ref b] below meth c H1 locs1 (cells + 1) (slots + 6) Q (F0 m 1656 ls1 [])) : W p l e room_1 s m #[Value.ref b] below meth c H locs cells slots Q (F0 m 1058 ls []) := by
  have C' := C
  obtain ⟨F, hT, hK, hX, hdX, hdM, g1, g2, g3, g4, g5, g6, hXs, hbl, hL, hfl, hr, hlk⟩ := C'
  have hx := F.1
  have hb := F.2.1
  refine lv_aload_n hx hb d_L_law_1058 rfl (lv_at hl 1 rfl) ?_
  refine lw_arg hx hb hXs hbl hI.2.2.2 hl (p0 := 0) (p4 := 4) (n := n) rfl rfl 1 (ki := 1) rfl (by omega) hL d_L_law_1059 d_L_law_1060 d_L_law_1062 d_L_law_1063 d_L_law_1064 ?_
  refine lw_arg hx hb hXs hbl hI.2.2.2 hl (p0 := 0) (p4 := 4) (n := n) rfl rfl 2 (ki := 2) rfl (by omega) hL d_L_law_1065 d_L_law_1066 d_L_law_1068 d_L_law_1069 d_L_law_1070 ?_
  refine lv_aload_n hx hb d_L_law_1071 rfl (lv_at hl 3 rfl) ?_
  refine lw_help C hI hM wl_L_138 ws_L_leave wn_L wc_L_leave ck_L_leave ⟨rfl, rfl⟩ ⟨by decide, by decide⟩ hf hl.1 (rest := []) rfl (Nat.le_of_ble_eq_true rfl) d_L_law_1072 (fun H locs hI => ?_)
  refine lv_istore (lv' := [(5, .int k), (0, .ref b), (1, .ref (adX 0)), (2, .ref (adM 0)), (3, .ref ao), (4, .int (nI n))]) hx hb d_L_law_1075 hl (by decide) rfl (fun ls hl => ?_)
  refine lv_aload_n hx hb d_L_law_1077 rfl (lv_at hl 3 rfl) ?_
  refine lw_arg hx hb hXs hbl hI.2.2.2 hl (p0 := 1) (p4 := 5) (n := n) rfl rfl 1 (ki := 1) rfl (by omega) hL d_L_law_1078 d_L_law_1079 d_L_law_1081 d_L_law_1082 d_L_law_1083 ?_
  refine lw_arg hx hb hXs hbl hI.2.2.2 hl (p0 := 1) (p4 := 5) (n := n) rfl rfl 2 (ki := 2) rfl (by omega) hL d_L_law_1084 d_L_law_1085 d_L_law_1087 d_L_law_1088 d_L_law_1089 ?_
  refine lw_mod C hI (tM_leave l G c3 adM hdM Y (xs (n + 1)) (xs (n + 2)) r Y' hm) rfl wl_L_140 wi_M_leave we_M_leave wn_M wc_M_leave ck_M_leave ⟨rfl, rfl⟩ ⟨by decide, by decide⟩ ⟨hf.1, hf.2⟩ hl.1 (rest := []) rfl (Nat.le_of_ble_eq_true rfl) d_L_law_1090 (fun H locs hI => ?_)
  refine lv_istore (lv' := [(6, .int r), (5, .int k), (0, .ref b), (1, .ref (adX 0)), (2, .ref (adM 0)), (3, .ref ao), (4, .int (nI n))]) hx hb d_L_law_1093 hl (by decide) rfl (fun ls hl => ?_)
  refine lv_aload_n hx hb d_L_law_1095 rfl (lv_at hl 4 rfl) ?_
  refine xc_rv (rest := []) F hT (ty4_3 hK) hI.2.1 (tM_thrown l G c3 adM Y' _ rfl) sM_0 rfl wl_L_91 wi_M_thrown we_M_thrown wn_M wc_M_thrown ck_M_thrown ⟨rfl, rfl⟩ ⟨by decide, by decide⟩ ⟨hf.1, hf.2⟩ hl.1 rfl (Nat.le_of_ble_eq_true rfl) d_L_law_1096 ?_
  refine lv_iload hx hb d_L_law_1099 (lv_at hl 1 rfl) ?_
  refine lv_icmp_eq (tgt := 1106) hx hb d_L_law_1101 rfl (fun _ => ?_) (fun h => absurd ht h)
  refine lv_iload hx hb d_L_law_1106 (lv_at hl 1 rfl) ?_
  refine lv_if_ne (tgt := 1123) hx hb d_L_law_1108 rfl (fun _ => ?_) (fun h0 => ?_)
  · refine lv_goto (tgt := 1656) hx hb d_L_law_1123 rfl ?_
    exact kk _ _ _ hI (lv_sub hl [2, 3, 4, 5, 6] rfl)
  · refine lv_aload_n hx hb d_L_law_1111 rfl (lv_at hl 5 rfl) ?_
    refine lv_iconst (v := 0) hx hb d_L_law_1112 rfl ?_
    refine va_lald hx hb hK hI.2.2.1 0 3 rfl rfl (show ¬ ((0 : Int32) < 0 ∨ 1 ≤ (0 : Int32).toNatClampNeg) by decide) d_L_law_1113 ?_
    refine lv_iload hx hb d_L_law_1114 (lv_at hl 0 rfl) ?_
    refine lv_i2l hx hb d_L_law_1116 rfl ?_
    refine W.lcmp hx hb d_L_law_1117 ?_
    have hz : lg_cmp (o' (0 : Int32).toNatClampNeg) r.toInt64 = 0 := by
      rw [show (0 : Int32).toNatClampNeg = 0 by decide, he h0]; exact lg_self _
    refine lv_if_eq (tgt := 1123) hx hb d_L_law_1118 rfl (fun _ => ?_) (fun h => absurd hz h)
    refine lv_goto (tgt := 1656) hx hb d_L_law_1123 rfl ?_
    exact kk _ _ _ hI (lv_sub hl [2, 3, 4, 5, 6] rfl)
theorem lwS_13 {p : Program} {l : Launch} {e : Env} {s : State} {m : MethodId} {below : List Frame} {meth : Method} {c : Code} {H : Heap} {locs : List Loc} {cells slots : Nat} {Q : State → Prop} {ls : Array Slot} {b L n : Nat} {xs : Nat → Int32} {G : va_G} {c3 : ClassId × ClassId × ClassId} {cL : ClassId} {adX adM : Nat → Nat} {ao : Nat} {X Y : Mem} {o : Nat → Int64} {R : Mem → Mem → Prop} (C : LFix p l s m meth c b L xs G c3 cL adX adM ao) (hI : LInv s G c3 cL adX adM ao X Y o H locs) (hn : n + 5 ≤ L) (hl : lv_has ls 7 [(0, .ref b), (1, .ref (adX 0)), (2, .ref (adM 0)), (3, .ref ao), (4, .int (nI n))]) (hf : cells + 1 ≤ room_1.cells ∧ slots + 6 ≤ room_1.slots) (hs : simW1 R (fE_leave (xs (n + 1)) (xs (n + 2))) (kE_leave (xs (n + 1)) (xs (n + 2))) (fM_leave (xs (n + 1)) (xs (n + 2))) X Y)
    (kk : ∀ (X1 Y1 : Mem) (o1 : Nat → Int64) (H1 : Heap) (locs1 : List Loc) (ls1 : Array Slot), R X1 Y1 → LInv s G c3 cL adX adM ao X1 Y1 o1 H1 locs1 → lv_has ls1 7 [(0, .ref b), (1, .ref (adX 0)), (2, .ref (adM 0)), (3, .ref ao), (4, .int (nI n))] → W p l e room_1 s m #[Value.ref b] below meth c H1 locs1 (cells + 1) (slots + 6) Q (F0 m 1656 ls1 [])) : W p l e room_1 s m #[Value.ref b] below meth c H locs cells slots Q (F0 m 1058 ls []) := by
  obtain ⟨F, hT, hK, hX, hdX, hdM, g1, g2, g3, g4, g5, g6, hXs, hbl, hL, hfl, hr, hlk⟩ := id C
  rcases hs with hs | hs
  · obtain ⟨r, X', Y', e1, e2, ht, hR⟩ := hs
    exact lwC_13 C hI hn hl hf (hL_leave l s.heap.size G c3 cL adX hdX ao g5 X o (xs (n + 1)) (xs (n + 2)) r X' e1) e2 ht (fun _ => if_pos rfl) (fun H1 locs1 ls1 h1 h2 => kk _ _ _ H1 locs1 ls1 hR h1 h2)
  · obtain ⟨r, Y', e1, e2, ht, hR⟩ := hs
    exact lwC_13 C hI hn hl hf (hL_leave_x1 l hfl s.heap.size G c3 cL adX hdX ao g5 X o (xs (n + 1)) (xs (n + 2)) e1) e2 ht (fun h0 => absurd h0 (by decide)) (fun H1 locs1 ls1 h1 h2 => kk _ _ _ H1 locs1 ls1 hR h1 h2)
set_option maxHeartbeats 4000000 in
set_option maxRecDepth 100000 in
theorem lwC_14 {p : Program} {l : Launch} {e : Env} {s : State} {m : MethodId} {below : List Frame} {meth : Method} {c : Code} {H : Heap} {locs : List Loc} {cells slots : Nat} {Q : State → Prop} {ls : Array Slot} {b L n : Nat} {xs : Nat → Int32} {G : va_G} {c3 : ClassId × ClassId × ClassId} {cL : ClassId} {adX adM : Nat → Nat} {ao : Nat} {X X' Y Y' : Mem} {o o' : Nat → Int64} (C : LFix p l s m meth c b L xs G c3 cL adX adM ao) (hI : LInv s G c3 cL adX adM ao X Y o H locs) (hn : n + 5 ≤ L) (hl : lv_has ls 7 [(0, .ref b), (1, .ref (adX 0)), (2, .ref (adM 0)), (3, .ref ao), (4, .int (nI n))]) (hf : cells + 1 ≤ room_1.cells ∧ slots + 6 ≤ room_1.slots) {k : Int32} (hM : LMet l yL_where cL_where 5 [((0), (10), (13), (13))] (rm1_ 8 132) s.heap.size G c3 cL adX ao X o [.ref (adX 0), .int (xs (n + 1)), .int (xs (n + 2)), .ref ao] k X' o') {r : Int32} (hm : fM_where (xs (n + 1)) (xs (n + 2)) Y = some (r, Y')) (ht : Y' 0 0 = k) (he : k = 0 → o' 0 = r.toInt64) 
    (kk : ∀ (H1 : Heap) (locs1 : List Loc) (ls1 : Array Slot), LInv s G c3 cL adX adM ao X' Y' o' H1 locs1 → lv_has ls1 7 [(0, .ref b), (1, .ref (adX 0)), (2, .ref (adM 0)), (3, .ref ao), (4, .int (nI n))] → W p l e room_1 s m #[Value.ref b] below meth c H1 locs1 (cells + 1) (slots + 6) Q (F0 m 1656 ls1 [])) : W p l e room_1 s m #[Value.ref b] below meth c H locs cells slots Q (F0 m 1126 ls []) := by
  have C' := C
  obtain ⟨F, hT, hK, hX, hdX, hdM, g1, g2, g3, g4, g5, g6, hXs, hbl, hL, hfl, hr, hlk⟩ := C'
  have hx := F.1
  have hb := F.2.1
  refine lv_aload_n hx hb d_L_law_1126 rfl (lv_at hl 1 rfl) ?_
  refine lw_arg hx hb hXs hbl hI.2.2.2 hl (p0 := 0) (p4 := 4) (n := n) rfl rfl 1 (ki := 1) rfl (by omega) hL d_L_law_1127 d_L_law_1128 d_L_law_1130 d_L_law_1131 d_L_law_1132 ?_
  refine lw_arg hx hb hXs hbl hI.2.2.2 hl (p0 := 0) (p4 := 4) (n := n) rfl rfl 2 (ki := 2) rfl (by omega) hL d_L_law_1133 d_L_law_1134 d_L_law_1136 d_L_law_1137 d_L_law_1138 ?_
  refine lv_aload_n hx hb d_L_law_1139 rfl (lv_at hl 3 rfl) ?_
  refine lw_help C hI hM wl_L_141 ws_L_where wn_L wc_L_where ck_L_where ⟨rfl, rfl⟩ ⟨by decide, by decide⟩ hf hl.1 (rest := []) rfl (Nat.le_of_ble_eq_true rfl) d_L_law_1140 (fun H locs hI => ?_)
  refine lv_istore (lv' := [(5, .int k), (0, .ref b), (1, .ref (adX 0)), (2, .ref (adM 0)), (3, .ref ao), (4, .int (nI n))]) hx hb d_L_law_1143 hl (by decide) rfl (fun ls hl => ?_)
  refine lv_aload_n hx hb d_L_law_1145 rfl (lv_at hl 3 rfl) ?_
  refine lw_arg hx hb hXs hbl hI.2.2.2 hl (p0 := 1) (p4 := 5) (n := n) rfl rfl 1 (ki := 1) rfl (by omega) hL d_L_law_1146 d_L_law_1147 d_L_law_1149 d_L_law_1150 d_L_law_1151 ?_
  refine lw_arg hx hb hXs hbl hI.2.2.2 hl (p0 := 1) (p4 := 5) (n := n) rfl rfl 2 (ki := 2) rfl (by omega) hL d_L_law_1152 d_L_law_1153 d_L_law_1155 d_L_law_1156 d_L_law_1157 ?_
  refine lw_mod C hI (tM_where l G c3 adM hdM Y (xs (n + 1)) (xs (n + 2)) r Y' hm) rfl wl_L_143 wi_M_where we_M_where wn_M wc_M_where ck_M_where ⟨rfl, rfl⟩ ⟨by decide, by decide⟩ ⟨hf.1, hf.2⟩ hl.1 (rest := []) rfl (Nat.le_of_ble_eq_true rfl) d_L_law_1158 (fun H locs hI => ?_)
  refine lv_istore (lv' := [(6, .int r), (5, .int k), (0, .ref b), (1, .ref (adX 0)), (2, .ref (adM 0)), (3, .ref ao), (4, .int (nI n))]) hx hb d_L_law_1161 hl (by decide) rfl (fun ls hl => ?_)
  refine lv_aload_n hx hb d_L_law_1163 rfl (lv_at hl 4 rfl) ?_
  refine xc_rv (rest := []) F hT (ty4_3 hK) hI.2.1 (tM_thrown l G c3 adM Y' _ rfl) sM_0 rfl wl_L_91 wi_M_thrown we_M_thrown wn_M wc_M_thrown ck_M_thrown ⟨rfl, rfl⟩ ⟨by decide, by decide⟩ ⟨hf.1, hf.2⟩ hl.1 rfl (Nat.le_of_ble_eq_true rfl) d_L_law_1164 ?_
  refine lv_iload hx hb d_L_law_1167 (lv_at hl 1 rfl) ?_
  refine lv_icmp_eq (tgt := 1174) hx hb d_L_law_1169 rfl (fun _ => ?_) (fun h => absurd ht h)
  refine lv_iload hx hb d_L_law_1174 (lv_at hl 1 rfl) ?_
  refine lv_if_ne (tgt := 1191) hx hb d_L_law_1176 rfl (fun _ => ?_) (fun h0 => ?_)
  · refine lv_goto (tgt := 1656) hx hb d_L_law_1191 rfl ?_
    exact kk _ _ _ hI (lv_sub hl [2, 3, 4, 5, 6] rfl)
  · refine lv_aload_n hx hb d_L_law_1179 rfl (lv_at hl 5 rfl) ?_
    refine lv_iconst (v := 0) hx hb d_L_law_1180 rfl ?_
    refine va_lald hx hb hK hI.2.2.1 0 3 rfl rfl (show ¬ ((0 : Int32) < 0 ∨ 1 ≤ (0 : Int32).toNatClampNeg) by decide) d_L_law_1181 ?_
    refine lv_iload hx hb d_L_law_1182 (lv_at hl 0 rfl) ?_
    refine lv_i2l hx hb d_L_law_1184 rfl ?_
    refine W.lcmp hx hb d_L_law_1185 ?_
    have hz : lg_cmp (o' (0 : Int32).toNatClampNeg) r.toInt64 = 0 := by
      rw [show (0 : Int32).toNatClampNeg = 0 by decide, he h0]; exact lg_self _
    refine lv_if_eq (tgt := 1191) hx hb d_L_law_1186 rfl (fun _ => ?_) (fun h => absurd hz h)
    refine lv_goto (tgt := 1656) hx hb d_L_law_1191 rfl ?_
    exact kk _ _ _ hI (lv_sub hl [2, 3, 4, 5, 6] rfl)
theorem lwS_14 {p : Program} {l : Launch} {e : Env} {s : State} {m : MethodId} {below : List Frame} {meth : Method} {c : Code} {H : Heap} {locs : List Loc} {cells slots : Nat} {Q : State → Prop} {ls : Array Slot} {b L n : Nat} {xs : Nat → Int32} {G : va_G} {c3 : ClassId × ClassId × ClassId} {cL : ClassId} {adX adM : Nat → Nat} {ao : Nat} {X Y : Mem} {o : Nat → Int64} {R : Mem → Mem → Prop} (C : LFix p l s m meth c b L xs G c3 cL adX adM ao) (hI : LInv s G c3 cL adX adM ao X Y o H locs) (hn : n + 5 ≤ L) (hl : lv_has ls 7 [(0, .ref b), (1, .ref (adX 0)), (2, .ref (adM 0)), (3, .ref ao), (4, .int (nI n))]) (hf : cells + 1 ≤ room_1.cells ∧ slots + 6 ≤ room_1.slots) (hs : simR1 R (fE_where (xs (n + 1)) (xs (n + 2))) (kE_where (xs (n + 1)) (xs (n + 2))) 1 (fM_where (xs (n + 1)) (xs (n + 2))) X Y)
    (kk : ∀ (X1 Y1 : Mem) (o1 : Nat → Int64) (H1 : Heap) (locs1 : List Loc) (ls1 : Array Slot), R X1 Y1 → LInv s G c3 cL adX adM ao X1 Y1 o1 H1 locs1 → lv_has ls1 7 [(0, .ref b), (1, .ref (adX 0)), (2, .ref (adM 0)), (3, .ref ao), (4, .int (nI n))] → W p l e room_1 s m #[Value.ref b] below meth c H1 locs1 (cells + 1) (slots + 6) Q (F0 m 1656 ls1 [])) : W p l e room_1 s m #[Value.ref b] below meth c H locs cells slots Q (F0 m 1126 ls []) := by
  obtain ⟨F, hT, hK, hX, hdX, hdM, g1, g2, g3, g4, g5, g6, hXs, hbl, hL, hfl, hr, hlk⟩ := id C
  rcases hs with hs | hs
  · obtain ⟨r, Y', e1, e2, ht, hR⟩ := hs
    exact lwC_14 C hI hn hl hf (hL_where l s.heap.size G c3 cL adX hdX ao g5 X o (xs (n + 1)) (xs (n + 2)) r e1) e2 ht (fun _ => if_pos rfl) (fun H1 locs1 ls1 h1 h2 => kk _ _ _ H1 locs1 ls1 hR h1 h2)
  · obtain ⟨r, Y', e1, e2, ht, hR⟩ := hs
    exact lwC_14 C hI hn hl hf (hL_where_x1 l hfl s.heap.size G c3 cL adX hdX ao g5 X o (xs (n + 1)) (xs (n + 2)) e1) e2 ht (fun h0 => absurd h0 (by decide)) (fun H1 locs1 ls1 h1 h2 => kk _ _ _ H1 locs1 ls1 hR h1 h2)
set_option maxHeartbeats 4000000 in
set_option maxRecDepth 100000 in
theorem lwC_15 {p : Program} {l : Launch} {e : Env} {s : State} {m : MethodId} {below : List Frame} {meth : Method} {c : Code} {H : Heap} {locs : List Loc} {cells slots : Nat} {Q : State → Prop} {ls : Array Slot} {b L n : Nat} {xs : Nat → Int32} {G : va_G} {c3 : ClassId × ClassId × ClassId} {cL : ClassId} {adX adM : Nat → Nat} {ao : Nat} {X X' Y Y' : Mem} {o o' : Nat → Int64} (C : LFix p l s m meth c b L xs G c3 cL adX adM ao) (hI : LInv s G c3 cL adX adM ao X Y o H locs) (hn : n + 5 ≤ L) (hl : lv_has ls 7 [(0, .ref b), (1, .ref (adX 0)), (2, .ref (adM 0)), (3, .ref ao), (4, .int (nI n))]) (hf : cells + 1 ≤ room_1.cells ∧ slots + 6 ≤ room_1.slots) {k : Int32} (hM : LMet l yL_who cL_who 7 [((0), (14), (17), (13))] (rm1_ 8 134) s.heap.size G c3 cL adX ao X o [.ref (adX 0), .int (xs (n + 1)), .int (xs (n + 2)), .int (xs (n + 3)), .int (xs (n + 4)), .ref ao] k X' o') {r : Int32} (hm : fM_who (xs (n + 1)) (xs (n + 2)) (xs (n + 3)) (xs (n + 4)) Y = some (r, Y')) (ht : Y' 0 0 = k) (he : k = 0 → o' 0 = r.toInt64) 
    (kk : ∀ (H1 : Heap) (locs1 : List Loc) (ls1 : Array Slot), LInv s G c3 cL adX adM ao X' Y' o' H1 locs1 → lv_has ls1 7 [(0, .ref b), (1, .ref (adX 0)), (2, .ref (adM 0)), (3, .ref ao), (4, .int (nI n))] → W p l e room_1 s m #[Value.ref b] below meth c H1 locs1 (cells + 1) (slots + 6) Q (F0 m 1656 ls1 [])) : W p l e room_1 s m #[Value.ref b] below meth c H locs cells slots Q (F0 m 1194 ls []) := by
  have C' := C
  obtain ⟨F, hT, hK, hX, hdX, hdM, g1, g2, g3, g4, g5, g6, hXs, hbl, hL, hfl, hr, hlk⟩ := C'
  have hx := F.1
  have hb := F.2.1
  refine lv_aload_n hx hb d_L_law_1194 rfl (lv_at hl 1 rfl) ?_
  refine lw_arg hx hb hXs hbl hI.2.2.2 hl (p0 := 0) (p4 := 4) (n := n) rfl rfl 1 (ki := 1) rfl (by omega) hL d_L_law_1195 d_L_law_1196 d_L_law_1198 d_L_law_1199 d_L_law_1200 ?_
  refine lw_arg hx hb hXs hbl hI.2.2.2 hl (p0 := 0) (p4 := 4) (n := n) rfl rfl 2 (ki := 2) rfl (by omega) hL d_L_law_1201 d_L_law_1202 d_L_law_1204 d_L_law_1205 d_L_law_1206 ?_
  refine lw_arg hx hb hXs hbl hI.2.2.2 hl (p0 := 0) (p4 := 4) (n := n) rfl rfl 3 (ki := 3) rfl (by omega) hL d_L_law_1207 d_L_law_1208 d_L_law_1210 d_L_law_1211 d_L_law_1212 ?_
  refine lw_arg hx hb hXs hbl hI.2.2.2 hl (p0 := 0) (p4 := 4) (n := n) rfl rfl 4 (ki := 4) rfl (by omega) hL d_L_law_1213 d_L_law_1214 d_L_law_1216 d_L_law_1217 d_L_law_1218 ?_
  refine lv_aload_n hx hb d_L_law_1219 rfl (lv_at hl 3 rfl) ?_
  refine lw_help C hI hM wl_L_144 ws_L_who wn_L wc_L_who ck_L_who ⟨rfl, rfl⟩ ⟨by decide, by decide⟩ hf hl.1 (rest := []) rfl (Nat.le_of_ble_eq_true rfl) d_L_law_1220 (fun H locs hI => ?_)
  refine lv_istore (lv' := [(5, .int k), (0, .ref b), (1, .ref (adX 0)), (2, .ref (adM 0)), (3, .ref ao), (4, .int (nI n))]) hx hb d_L_law_1223 hl (by decide) rfl (fun ls hl => ?_)
  refine lv_aload_n hx hb d_L_law_1225 rfl (lv_at hl 3 rfl) ?_
  refine lw_arg hx hb hXs hbl hI.2.2.2 hl (p0 := 1) (p4 := 5) (n := n) rfl rfl 1 (ki := 1) rfl (by omega) hL d_L_law_1226 d_L_law_1227 d_L_law_1229 d_L_law_1230 d_L_law_1231 ?_
  refine lw_arg hx hb hXs hbl hI.2.2.2 hl (p0 := 1) (p4 := 5) (n := n) rfl rfl 2 (ki := 2) rfl (by omega) hL d_L_law_1232 d_L_law_1233 d_L_law_1235 d_L_law_1236 d_L_law_1237 ?_
  refine lw_arg hx hb hXs hbl hI.2.2.2 hl (p0 := 1) (p4 := 5) (n := n) rfl rfl 3 (ki := 3) rfl (by omega) hL d_L_law_1238 d_L_law_1239 d_L_law_1241 d_L_law_1242 d_L_law_1243 ?_
  refine lw_arg hx hb hXs hbl hI.2.2.2 hl (p0 := 1) (p4 := 5) (n := n) rfl rfl 4 (ki := 4) rfl (by omega) hL d_L_law_1244 d_L_law_1245 d_L_law_1247 d_L_law_1248 d_L_law_1249 ?_
  refine lw_mod C hI (tM_who l G c3 adM hdM Y (xs (n + 1)) (xs (n + 2)) (xs (n + 3)) (xs (n + 4)) r Y' hm) rfl wl_L_147 wi_M_who we_M_who wn_M wc_M_who ck_M_who ⟨rfl, rfl⟩ ⟨by decide, by decide⟩ ⟨hf.1, hf.2⟩ hl.1 (rest := []) rfl (Nat.le_of_ble_eq_true rfl) d_L_law_1250 (fun H locs hI => ?_)
  refine lv_istore (lv' := [(6, .int r), (5, .int k), (0, .ref b), (1, .ref (adX 0)), (2, .ref (adM 0)), (3, .ref ao), (4, .int (nI n))]) hx hb d_L_law_1253 hl (by decide) rfl (fun ls hl => ?_)
  refine lv_aload_n hx hb d_L_law_1255 rfl (lv_at hl 4 rfl) ?_
  refine xc_rv (rest := []) F hT (ty4_3 hK) hI.2.1 (tM_thrown l G c3 adM Y' _ rfl) sM_0 rfl wl_L_91 wi_M_thrown we_M_thrown wn_M wc_M_thrown ck_M_thrown ⟨rfl, rfl⟩ ⟨by decide, by decide⟩ ⟨hf.1, hf.2⟩ hl.1 rfl (Nat.le_of_ble_eq_true rfl) d_L_law_1256 ?_
  refine lv_iload hx hb d_L_law_1259 (lv_at hl 1 rfl) ?_
  refine lv_icmp_eq (tgt := 1266) hx hb d_L_law_1261 rfl (fun _ => ?_) (fun h => absurd ht h)
  refine lv_iload hx hb d_L_law_1266 (lv_at hl 1 rfl) ?_
  refine lv_if_ne (tgt := 1283) hx hb d_L_law_1268 rfl (fun _ => ?_) (fun h0 => ?_)
  · refine lv_goto (tgt := 1656) hx hb d_L_law_1283 rfl ?_
    exact kk _ _ _ hI (lv_sub hl [2, 3, 4, 5, 6] rfl)
  · refine lv_aload_n hx hb d_L_law_1271 rfl (lv_at hl 5 rfl) ?_
    refine lv_iconst (v := 0) hx hb d_L_law_1272 rfl ?_
    refine va_lald hx hb hK hI.2.2.1 0 3 rfl rfl (show ¬ ((0 : Int32) < 0 ∨ 1 ≤ (0 : Int32).toNatClampNeg) by decide) d_L_law_1273 ?_
    refine lv_iload hx hb d_L_law_1274 (lv_at hl 0 rfl) ?_
    refine lv_i2l hx hb d_L_law_1276 rfl ?_
    refine W.lcmp hx hb d_L_law_1277 ?_
    have hz : lg_cmp (o' (0 : Int32).toNatClampNeg) r.toInt64 = 0 := by
      rw [show (0 : Int32).toNatClampNeg = 0 by decide, he h0]; exact lg_self _
    refine lv_if_eq (tgt := 1283) hx hb d_L_law_1278 rfl (fun _ => ?_) (fun h => absurd hz h)
    refine lv_goto (tgt := 1656) hx hb d_L_law_1283 rfl ?_
    exact kk _ _ _ hI (lv_sub hl [2, 3, 4, 5, 6] rfl)
theorem lwS_15 {p : Program} {l : Launch} {e : Env} {s : State} {m : MethodId} {below : List Frame} {meth : Method} {c : Code} {H : Heap} {locs : List Loc} {cells slots : Nat} {Q : State → Prop} {ls : Array Slot} {b L n : Nat} {xs : Nat → Int32} {G : va_G} {c3 : ClassId × ClassId × ClassId} {cL : ClassId} {adX adM : Nat → Nat} {ao : Nat} {X Y : Mem} {o : Nat → Int64} {R : Mem → Mem → Prop} (C : LFix p l s m meth c b L xs G c3 cL adX adM ao) (hI : LInv s G c3 cL adX adM ao X Y o H locs) (hn : n + 5 ≤ L) (hl : lv_has ls 7 [(0, .ref b), (1, .ref (adX 0)), (2, .ref (adM 0)), (3, .ref ao), (4, .int (nI n))]) (hf : cells + 1 ≤ room_1.cells ∧ slots + 6 ≤ room_1.slots) (hs : simR1 R (fE_who (xs (n + 1)) (xs (n + 2)) (xs (n + 3)) (xs (n + 4))) (kE_who (xs (n + 1)) (xs (n + 2)) (xs (n + 3)) (xs (n + 4))) 1 (fM_who (xs (n + 1)) (xs (n + 2)) (xs (n + 3)) (xs (n + 4))) X Y)
    (kk : ∀ (X1 Y1 : Mem) (o1 : Nat → Int64) (H1 : Heap) (locs1 : List Loc) (ls1 : Array Slot), R X1 Y1 → LInv s G c3 cL adX adM ao X1 Y1 o1 H1 locs1 → lv_has ls1 7 [(0, .ref b), (1, .ref (adX 0)), (2, .ref (adM 0)), (3, .ref ao), (4, .int (nI n))] → W p l e room_1 s m #[Value.ref b] below meth c H1 locs1 (cells + 1) (slots + 6) Q (F0 m 1656 ls1 [])) : W p l e room_1 s m #[Value.ref b] below meth c H locs cells slots Q (F0 m 1194 ls []) := by
  obtain ⟨F, hT, hK, hX, hdX, hdM, g1, g2, g3, g4, g5, g6, hXs, hbl, hL, hfl, hr, hlk⟩ := id C
  rcases hs with hs | hs
  · obtain ⟨r, Y', e1, e2, ht, hR⟩ := hs
    exact lwC_15 C hI hn hl hf (hL_who l s.heap.size G c3 cL adX hdX ao g5 X o (xs (n + 1)) (xs (n + 2)) (xs (n + 3)) (xs (n + 4)) r e1) e2 ht (fun _ => if_pos rfl) (fun H1 locs1 ls1 h1 h2 => kk _ _ _ H1 locs1 ls1 hR h1 h2)
  · obtain ⟨r, Y', e1, e2, ht, hR⟩ := hs
    exact lwC_15 C hI hn hl hf (hL_who_x1 l hfl s.heap.size G c3 cL adX hdX ao g5 X o (xs (n + 1)) (xs (n + 2)) (xs (n + 3)) (xs (n + 4)) e1) e2 ht (fun h0 => absurd h0 (by decide)) (fun H1 locs1 ls1 h1 h2 => kk _ _ _ H1 locs1 ls1 hR h1 h2)
set_option maxHeartbeats 4000000 in
set_option maxRecDepth 100000 in
theorem lwC_16 {p : Program} {l : Launch} {e : Env} {s : State} {m : MethodId} {below : List Frame} {meth : Method} {c : Code} {H : Heap} {locs : List Loc} {cells slots : Nat} {Q : State → Prop} {ls : Array Slot} {b L n : Nat} {xs : Nat → Int32} {G : va_G} {c3 : ClassId × ClassId × ClassId} {cL : ClassId} {adX adM : Nat → Nat} {ao : Nat} {X X' Y Y' : Mem} {o o' : Nat → Int64} (C : LFix p l s m meth c b L xs G c3 cL adX adM ao) (hI : LInv s G c3 cL adX adM ao X Y o H locs) (hn : n + 5 ≤ L) (hl : lv_has ls 7 [(0, .ref b), (1, .ref (adX 0)), (2, .ref (adM 0)), (3, .ref ao), (4, .int (nI n))]) (hf : cells + 1 ≤ room_1.cells ∧ slots + 6 ≤ room_1.slots) {k : Int32} (hM : LMet l yL_most cL_most 5 [((0), (10), (13), (13)), ((0), (10), (17), (15))] (rm1_ 8 133) s.heap.size G c3 cL adX ao X o [.ref (adX 0), .int (xs (n + 1)), .int (xs (n + 2)), .ref ao] k X' o') {r : Int32} (hm : fM_most (xs (n + 1)) (xs (n + 2)) Y = some (r, Y')) (ht : Y' 0 0 = k) (he : k = 0 → o' 0 = r.toInt64) 
    (kk : ∀ (H1 : Heap) (locs1 : List Loc) (ls1 : Array Slot), LInv s G c3 cL adX adM ao X' Y' o' H1 locs1 → lv_has ls1 7 [(0, .ref b), (1, .ref (adX 0)), (2, .ref (adM 0)), (3, .ref ao), (4, .int (nI n))] → W p l e room_1 s m #[Value.ref b] below meth c H1 locs1 (cells + 1) (slots + 6) Q (F0 m 1656 ls1 [])) : W p l e room_1 s m #[Value.ref b] below meth c H locs cells slots Q (F0 m 1286 ls []) := by
  have C' := C
  obtain ⟨F, hT, hK, hX, hdX, hdM, g1, g2, g3, g4, g5, g6, hXs, hbl, hL, hfl, hr, hlk⟩ := C'
  have hx := F.1
  have hb := F.2.1
  refine lv_aload_n hx hb d_L_law_1286 rfl (lv_at hl 1 rfl) ?_
  refine lw_arg hx hb hXs hbl hI.2.2.2 hl (p0 := 0) (p4 := 4) (n := n) rfl rfl 1 (ki := 1) rfl (by omega) hL d_L_law_1287 d_L_law_1288 d_L_law_1290 d_L_law_1291 d_L_law_1292 ?_
  refine lw_arg hx hb hXs hbl hI.2.2.2 hl (p0 := 0) (p4 := 4) (n := n) rfl rfl 2 (ki := 2) rfl (by omega) hL d_L_law_1293 d_L_law_1294 d_L_law_1296 d_L_law_1297 d_L_law_1298 ?_
  refine lv_aload_n hx hb d_L_law_1299 rfl (lv_at hl 3 rfl) ?_
  refine lw_help C hI hM wl_L_148 ws_L_most wn_L wc_L_most ck_L_most ⟨rfl, rfl⟩ ⟨by decide, by decide⟩ hf hl.1 (rest := []) rfl (Nat.le_of_ble_eq_true rfl) d_L_law_1300 (fun H locs hI => ?_)
  refine lv_istore (lv' := [(5, .int k), (0, .ref b), (1, .ref (adX 0)), (2, .ref (adM 0)), (3, .ref ao), (4, .int (nI n))]) hx hb d_L_law_1303 hl (by decide) rfl (fun ls hl => ?_)
  refine lv_aload_n hx hb d_L_law_1305 rfl (lv_at hl 3 rfl) ?_
  refine lw_arg hx hb hXs hbl hI.2.2.2 hl (p0 := 1) (p4 := 5) (n := n) rfl rfl 1 (ki := 1) rfl (by omega) hL d_L_law_1306 d_L_law_1307 d_L_law_1309 d_L_law_1310 d_L_law_1311 ?_
  refine lw_arg hx hb hXs hbl hI.2.2.2 hl (p0 := 1) (p4 := 5) (n := n) rfl rfl 2 (ki := 2) rfl (by omega) hL d_L_law_1312 d_L_law_1313 d_L_law_1315 d_L_law_1316 d_L_law_1317 ?_
  refine lw_mod C hI (tM_most l G c3 adM hdM Y (xs (n + 1)) (xs (n + 2)) r Y' hm) rfl wl_L_150 wi_M_most we_M_most wn_M wc_M_most ck_M_most ⟨rfl, rfl⟩ ⟨by decide, by decide⟩ ⟨hf.1, hf.2⟩ hl.1 (rest := []) rfl (Nat.le_of_ble_eq_true rfl) d_L_law_1318 (fun H locs hI => ?_)
  refine lv_istore (lv' := [(6, .int r), (5, .int k), (0, .ref b), (1, .ref (adX 0)), (2, .ref (adM 0)), (3, .ref ao), (4, .int (nI n))]) hx hb d_L_law_1321 hl (by decide) rfl (fun ls hl => ?_)
  refine lv_aload_n hx hb d_L_law_1323 rfl (lv_at hl 4 rfl) ?_
  refine xc_rv (rest := []) F hT (ty4_3 hK) hI.2.1 (tM_thrown l G c3 adM Y' _ rfl) sM_0 rfl wl_L_91 wi_M_thrown we_M_thrown wn_M wc_M_thrown ck_M_thrown ⟨rfl, rfl⟩ ⟨by decide, by decide⟩ ⟨hf.1, hf.2⟩ hl.1 rfl (Nat.le_of_ble_eq_true rfl) d_L_law_1324 ?_
  refine lv_iload hx hb d_L_law_1327 (lv_at hl 1 rfl) ?_
  refine lv_icmp_eq (tgt := 1334) hx hb d_L_law_1329 rfl (fun _ => ?_) (fun h => absurd ht h)
  refine lv_iload hx hb d_L_law_1334 (lv_at hl 1 rfl) ?_
  refine lv_if_ne (tgt := 1351) hx hb d_L_law_1336 rfl (fun _ => ?_) (fun h0 => ?_)
  · refine lv_goto (tgt := 1656) hx hb d_L_law_1351 rfl ?_
    exact kk _ _ _ hI (lv_sub hl [2, 3, 4, 5, 6] rfl)
  · refine lv_aload_n hx hb d_L_law_1339 rfl (lv_at hl 5 rfl) ?_
    refine lv_iconst (v := 0) hx hb d_L_law_1340 rfl ?_
    refine va_lald hx hb hK hI.2.2.1 0 3 rfl rfl (show ¬ ((0 : Int32) < 0 ∨ 1 ≤ (0 : Int32).toNatClampNeg) by decide) d_L_law_1341 ?_
    refine lv_iload hx hb d_L_law_1342 (lv_at hl 0 rfl) ?_
    refine lv_i2l hx hb d_L_law_1344 rfl ?_
    refine W.lcmp hx hb d_L_law_1345 ?_
    have hz : lg_cmp (o' (0 : Int32).toNatClampNeg) r.toInt64 = 0 := by
      rw [show (0 : Int32).toNatClampNeg = 0 by decide, he h0]; exact lg_self _
    refine lv_if_eq (tgt := 1351) hx hb d_L_law_1346 rfl (fun _ => ?_) (fun h => absurd hz h)
    refine lv_goto (tgt := 1656) hx hb d_L_law_1351 rfl ?_
    exact kk _ _ _ hI (lv_sub hl [2, 3, 4, 5, 6] rfl)
theorem lwS_16 {p : Program} {l : Launch} {e : Env} {s : State} {m : MethodId} {below : List Frame} {meth : Method} {c : Code} {H : Heap} {locs : List Loc} {cells slots : Nat} {Q : State → Prop} {ls : Array Slot} {b L n : Nat} {xs : Nat → Int32} {G : va_G} {c3 : ClassId × ClassId × ClassId} {cL : ClassId} {adX adM : Nat → Nat} {ao : Nat} {X Y : Mem} {o : Nat → Int64} {R : Mem → Mem → Prop} (C : LFix p l s m meth c b L xs G c3 cL adX adM ao) (hI : LInv s G c3 cL adX adM ao X Y o H locs) (hn : n + 5 ≤ L) (hl : lv_has ls 7 [(0, .ref b), (1, .ref (adX 0)), (2, .ref (adM 0)), (3, .ref ao), (4, .int (nI n))]) (hf : cells + 1 ≤ room_1.cells ∧ slots + 6 ≤ room_1.slots) (hs : simW2 R (fE_most (xs (n + 1)) (xs (n + 2))) (kE_most (xs (n + 1)) (xs (n + 2))) 2 (fM_most (xs (n + 1)) (xs (n + 2))) X Y)
    (kk : ∀ (X1 Y1 : Mem) (o1 : Nat → Int64) (H1 : Heap) (locs1 : List Loc) (ls1 : Array Slot), R X1 Y1 → LInv s G c3 cL adX adM ao X1 Y1 o1 H1 locs1 → lv_has ls1 7 [(0, .ref b), (1, .ref (adX 0)), (2, .ref (adM 0)), (3, .ref ao), (4, .int (nI n))] → W p l e room_1 s m #[Value.ref b] below meth c H1 locs1 (cells + 1) (slots + 6) Q (F0 m 1656 ls1 [])) : W p l e room_1 s m #[Value.ref b] below meth c H locs cells slots Q (F0 m 1286 ls []) := by
  obtain ⟨F, hT, hK, hX, hdX, hdM, g1, g2, g3, g4, g5, g6, hXs, hbl, hL, hfl, hr, hlk⟩ := id C
  rcases hs with hs | hs | hs
  · obtain ⟨r, X', Y', e1, e2, ht, hR⟩ := hs
    exact lwC_16 C hI hn hl hf (hL_most l s.heap.size G c3 cL adX hdX ao g5 X o (xs (n + 1)) (xs (n + 2)) r X' e1) e2 ht (fun _ => if_pos rfl) (fun H1 locs1 ls1 h1 h2 => kk _ _ _ H1 locs1 ls1 hR h1 h2)
  · obtain ⟨r, Y', e1, e2, ht, hR⟩ := hs
    exact lwC_16 C hI hn hl hf (hL_most_x1 l hfl s.heap.size G c3 cL adX hdX ao g5 X o (xs (n + 1)) (xs (n + 2)) e1) e2 ht (fun h0 => absurd h0 (by decide)) (fun H1 locs1 ls1 h1 h2 => kk _ _ _ H1 locs1 ls1 hR h1 h2)
  · obtain ⟨r, Y', e1, e2, ht, hR⟩ := hs
    exact lwC_16 C hI hn hl hf (hL_most_x2 l hfl s.heap.size G c3 cL adX hdX ao g5 X o (xs (n + 1)) (xs (n + 2)) e1) e2 ht (fun h0 => absurd h0 (by decide)) (fun H1 locs1 ls1 h1 h2 => kk _ _ _ H1 locs1 ls1 hR h1 h2)
set_option maxHeartbeats 4000000 in
set_option maxRecDepth 100000 in
theorem lwC_17 {p : Program} {l : Launch} {e : Env} {s : State} {m : MethodId} {below : List Frame} {meth : Method} {c : Code} {H : Heap} {locs : List Loc} {cells slots : Nat} {Q : State → Prop} {ls : Array Slot} {b L n : Nat} {xs : Nat → Int32} {G : va_G} {c3 : ClassId × ClassId × ClassId} {cL : ClassId} {adX adM : Nat → Nat} {ao : Nat} {X X' Y Y' : Mem} {o o' : Nat → Int64} (C : LFix p l s m meth c b L xs G c3 cL adX adM ao) (hI : LInv s G c3 cL adX adM ao X Y o H locs) (hn : n + 5 ≤ L) (hl : lv_has ls 7 [(0, .ref b), (1, .ref (adX 0)), (2, .ref (adM 0)), (3, .ref ao), (4, .int (nI n))]) (hf : cells + 1 ≤ room_1.cells ∧ slots + 6 ≤ room_1.slots) {k : Int32} (hM : LMet l yL_own cL_own 6 [((0), (19), (22), (13))] (rm1_ 8 134) s.heap.size G c3 cL adX ao X o [.ref (adX 0), .int (xs (n + 1)), .int (xs (n + 2)), .int (zb (xs (n + 3))), .ref ao] k X' o') {r : Int32} (hm : fM_own (xs (n + 1)) (xs (n + 2)) (zb (xs (n + 3))) Y = some (r, Y')) (ht : Y' 0 0 = k) (he : k = 0 → o' 0 = zl r) 
    (kk : ∀ (H1 : Heap) (locs1 : List Loc) (ls1 : Array Slot), LInv s G c3 cL adX adM ao X' Y' o' H1 locs1 → lv_has ls1 7 [(0, .ref b), (1, .ref (adX 0)), (2, .ref (adM 0)), (3, .ref ao), (4, .int (nI n))] → W p l e room_1 s m #[Value.ref b] below meth c H1 locs1 (cells + 1) (slots + 6) Q (F0 m 1656 ls1 [])) : W p l e room_1 s m #[Value.ref b] below meth c H locs cells slots Q (F0 m 1354 ls []) := by
  have C' := C
  obtain ⟨F, hT, hK, hX, hdX, hdM, g1, g2, g3, g4, g5, g6, hXs, hbl, hL, hfl, hr, hlk⟩ := C'
  have hx := F.1
  have hb := F.2.1
  refine lv_aload_n hx hb d_L_law_1354 rfl (lv_at hl 1 rfl) ?_
  refine lw_arg hx hb hXs hbl hI.2.2.2 hl (p0 := 0) (p4 := 4) (n := n) rfl rfl 1 (ki := 1) rfl (by omega) hL d_L_law_1355 d_L_law_1356 d_L_law_1358 d_L_law_1359 d_L_law_1360 ?_
  refine lw_arg hx hb hXs hbl hI.2.2.2 hl (p0 := 0) (p4 := 4) (n := n) rfl rfl 2 (ki := 2) rfl (by omega) hL d_L_law_1361 d_L_law_1362 d_L_law_1364 d_L_law_1365 d_L_law_1366 ?_
  refine lw_arg hx hb hXs hbl hI.2.2.2 hl (p0 := 0) (p4 := 4) (n := n) rfl rfl 3 (ki := 3) rfl (by omega) hL d_L_law_1367 d_L_law_1368 d_L_law_1370 d_L_law_1371 d_L_law_1372 ?_
  refine lw_bool hx hb d_L_law_1373 d_L_law_1376 d_L_law_1377 d_L_law_1380 ?_
  refine lv_aload_n hx hb d_L_law_1381 rfl (lv_at hl 3 rfl) ?_
  refine lw_help C hI hM wl_L_151 ws_L_own wn_L wc_L_own ck_L_own ⟨rfl, rfl⟩ ⟨by decide, by decide⟩ hf hl.1 (rest := []) rfl (Nat.le_of_ble_eq_true rfl) d_L_law_1382 (fun H locs hI => ?_)
  refine lv_istore (lv' := [(5, .int k), (0, .ref b), (1, .ref (adX 0)), (2, .ref (adM 0)), (3, .ref ao), (4, .int (nI n))]) hx hb d_L_law_1385 hl (by decide) rfl (fun ls hl => ?_)
  refine lv_aload_n hx hb d_L_law_1387 rfl (lv_at hl 3 rfl) ?_
  refine lw_arg hx hb hXs hbl hI.2.2.2 hl (p0 := 1) (p4 := 5) (n := n) rfl rfl 1 (ki := 1) rfl (by omega) hL d_L_law_1388 d_L_law_1389 d_L_law_1391 d_L_law_1392 d_L_law_1393 ?_
  refine lw_arg hx hb hXs hbl hI.2.2.2 hl (p0 := 1) (p4 := 5) (n := n) rfl rfl 2 (ki := 2) rfl (by omega) hL d_L_law_1394 d_L_law_1395 d_L_law_1397 d_L_law_1398 d_L_law_1399 ?_
  refine lw_arg hx hb hXs hbl hI.2.2.2 hl (p0 := 1) (p4 := 5) (n := n) rfl rfl 3 (ki := 3) rfl (by omega) hL d_L_law_1400 d_L_law_1401 d_L_law_1403 d_L_law_1404 d_L_law_1405 ?_
  refine lw_bool hx hb d_L_law_1406 d_L_law_1409 d_L_law_1410 d_L_law_1413 ?_
  refine lw_mod C hI (tM_own l G c3 adM hdM Y (xs (n + 1)) (xs (n + 2)) (zb (xs (n + 3))) r Y' hm) rfl wl_L_153 wi_M_own we_M_own wn_M wc_M_own ck_M_own ⟨rfl, rfl⟩ ⟨by decide, by decide⟩ ⟨hf.1, hf.2⟩ hl.1 (rest := []) rfl (Nat.le_of_ble_eq_true rfl) d_L_law_1414 (fun H locs hI => ?_)
  refine lv_istore (lv' := [(6, .int r), (5, .int k), (0, .ref b), (1, .ref (adX 0)), (2, .ref (adM 0)), (3, .ref ao), (4, .int (nI n))]) hx hb d_L_law_1417 hl (by decide) rfl (fun ls hl => ?_)
  refine lv_aload_n hx hb d_L_law_1419 rfl (lv_at hl 4 rfl) ?_
  refine xc_rv (rest := []) F hT (ty4_3 hK) hI.2.1 (tM_thrown l G c3 adM Y' _ rfl) sM_0 rfl wl_L_91 wi_M_thrown we_M_thrown wn_M wc_M_thrown ck_M_thrown ⟨rfl, rfl⟩ ⟨by decide, by decide⟩ ⟨hf.1, hf.2⟩ hl.1 rfl (Nat.le_of_ble_eq_true rfl) d_L_law_1420 ?_
  refine lv_iload hx hb d_L_law_1423 (lv_at hl 1 rfl) ?_
  refine lv_icmp_eq (tgt := 1430) hx hb d_L_law_1425 rfl (fun _ => ?_) (fun h => absurd ht h)
  refine lv_iload hx hb d_L_law_1430 (lv_at hl 1 rfl) ?_
  refine lv_if_ne (tgt := 1454) hx hb d_L_law_1432 rfl (fun _ => ?_) (fun h0 => ?_)
  · refine lv_goto (tgt := 1656) hx hb d_L_law_1454 rfl ?_
    exact kk _ _ _ hI (lv_sub hl [2, 3, 4, 5, 6] rfl)
  · refine lv_aload_n hx hb d_L_law_1435 rfl (lv_at hl 5 rfl) ?_
    refine lv_iconst (v := 0) hx hb d_L_law_1436 rfl ?_
    refine va_lald hx hb hK hI.2.2.1 0 3 rfl rfl (show ¬ ((0 : Int32) < 0 ∨ 1 ≤ (0 : Int32).toNatClampNeg) by decide) d_L_law_1437 ?_
    refine lv_iload hx hb d_L_law_1438 (lv_at hl 0 rfl) ?_
    refine lw_boolL hx hb d_L_law_1440 d_L_law_1443 d_L_law_1444 d_L_law_1447 ?_
    refine W.lcmp hx hb d_L_law_1448 ?_
    have hz : lg_cmp (o' (0 : Int32).toNatClampNeg) (zl r) = 0 := by
      rw [show (0 : Int32).toNatClampNeg = 0 by decide, he h0]; exact lg_self _
    refine lv_if_eq (tgt := 1454) hx hb d_L_law_1449 rfl (fun _ => ?_) (fun h => absurd hz h)
    refine lv_goto (tgt := 1656) hx hb d_L_law_1454 rfl ?_
    exact kk _ _ _ hI (lv_sub hl [2, 3, 4, 5, 6] rfl)
theorem lwS_17 {p : Program} {l : Launch} {e : Env} {s : State} {m : MethodId} {below : List Frame} {meth : Method} {c : Code} {H : Heap} {locs : List Loc} {cells slots : Nat} {Q : State → Prop} {ls : Array Slot} {b L n : Nat} {xs : Nat → Int32} {G : va_G} {c3 : ClassId × ClassId × ClassId} {cL : ClassId} {adX adM : Nat → Nat} {ao : Nat} {X Y : Mem} {o : Nat → Int64} {R : Mem → Mem → Prop} (C : LFix p l s m meth c b L xs G c3 cL adX adM ao) (hI : LInv s G c3 cL adX adM ao X Y o H locs) (hn : n + 5 ≤ L) (hl : lv_has ls 7 [(0, .ref b), (1, .ref (adX 0)), (2, .ref (adM 0)), (3, .ref ao), (4, .int (nI n))]) (hf : cells + 1 ≤ room_1.cells ∧ slots + 6 ≤ room_1.slots) (hs : simW1 R (fE_own (xs (n + 1)) (xs (n + 2)) (zb (xs (n + 3)))) (kE_own (xs (n + 1)) (xs (n + 2)) (zb (xs (n + 3)))) (fM_own (xs (n + 1)) (xs (n + 2)) (zb (xs (n + 3)))) X Y)
    (kk : ∀ (X1 Y1 : Mem) (o1 : Nat → Int64) (H1 : Heap) (locs1 : List Loc) (ls1 : Array Slot), R X1 Y1 → LInv s G c3 cL adX adM ao X1 Y1 o1 H1 locs1 → lv_has ls1 7 [(0, .ref b), (1, .ref (adX 0)), (2, .ref (adM 0)), (3, .ref ao), (4, .int (nI n))] → W p l e room_1 s m #[Value.ref b] below meth c H1 locs1 (cells + 1) (slots + 6) Q (F0 m 1656 ls1 [])) : W p l e room_1 s m #[Value.ref b] below meth c H locs cells slots Q (F0 m 1354 ls []) := by
  obtain ⟨F, hT, hK, hX, hdX, hdM, g1, g2, g3, g4, g5, g6, hXs, hbl, hL, hfl, hr, hlk⟩ := id C
  rcases hs with hs | hs
  · obtain ⟨r, X', Y', e1, e2, ht, hR⟩ := hs
    exact lwC_17 C hI hn hl hf (hL_own l s.heap.size G c3 cL adX hdX ao g5 X o (xs (n + 1)) (xs (n + 2)) (zb (xs (n + 3))) r X' e1) e2 ht (fun _ => if_pos rfl) (fun H1 locs1 ls1 h1 h2 => kk _ _ _ H1 locs1 ls1 hR h1 h2)
  · obtain ⟨r, Y', e1, e2, ht, hR⟩ := hs
    exact lwC_17 C hI hn hl hf (hL_own_x1 l hfl s.heap.size G c3 cL adX hdX ao g5 X o (xs (n + 1)) (xs (n + 2)) (zb (xs (n + 3))) e1) e2 ht (fun h0 => absurd h0 (by decide)) (fun H1 locs1 ls1 h1 h2 => kk _ _ _ H1 locs1 ls1 hR h1 h2)
set_option maxHeartbeats 4000000 in
set_option maxRecDepth 100000 in
theorem lwC_18 {p : Program} {l : Launch} {e : Env} {s : State} {m : MethodId} {below : List Frame} {meth : Method} {c : Code} {H : Heap} {locs : List Loc} {cells slots : Nat} {Q : State → Prop} {ls : Array Slot} {b L n : Nat} {xs : Nat → Int32} {G : va_G} {c3 : ClassId × ClassId × ClassId} {cL : ClassId} {adX adM : Nat → Nat} {ao : Nat} {X X' Y Y' : Mem} {o o' : Nat → Int64} (C : LFix p l s m meth c b L xs G c3 cL adX adM ao) (hI : LInv s G c3 cL adX adM ao X Y o H locs) (hn : n + 5 ≤ L) (hl : lv_has ls 7 [(0, .ref b), (1, .ref (adX 0)), (2, .ref (adM 0)), (3, .ref ao), (4, .int (nI n))]) (hf : cells + 1 ≤ room_1.cells ∧ slots + 6 ≤ room_1.slots) {k : Int32} (hM : LMet l yL_watch cL_watch 4 [((0), (16), (19), (13))] (rm1_ 8 131) s.heap.size G c3 cL adX ao X o [.ref (adX 0), .int (xs (n + 1)), .ref ao] k X' o') {r : Int32} (hm : fM_watch (xs (n + 1)) Y = some (r, Y')) (ht : Y' 0 0 = k) (he : k = 0 → o' 0 = zl r) 
    (kk : ∀ (H1 : Heap) (locs1 : List Loc) (ls1 : Array Slot), LInv s G c3 cL adX adM ao X' Y' o' H1 locs1 → lv_has ls1 7 [(0, .ref b), (1, .ref (adX 0)), (2, .ref (adM 0)), (3, .ref ao), (4, .int (nI n))] → W p l e room_1 s m #[Value.ref b] below meth c H1 locs1 (cells + 1) (slots + 6) Q (F0 m 1656 ls1 [])) : W p l e room_1 s m #[Value.ref b] below meth c H locs cells slots Q (F0 m 1457 ls []) := by
  have C' := C
  obtain ⟨F, hT, hK, hX, hdX, hdM, g1, g2, g3, g4, g5, g6, hXs, hbl, hL, hfl, hr, hlk⟩ := C'
  have hx := F.1
  have hb := F.2.1
  refine lv_aload_n hx hb d_L_law_1457 rfl (lv_at hl 1 rfl) ?_
  refine lw_arg hx hb hXs hbl hI.2.2.2 hl (p0 := 0) (p4 := 4) (n := n) rfl rfl 1 (ki := 1) rfl (by omega) hL d_L_law_1458 d_L_law_1459 d_L_law_1461 d_L_law_1462 d_L_law_1463 ?_
  refine lv_aload_n hx hb d_L_law_1464 rfl (lv_at hl 3 rfl) ?_
  refine lw_help C hI hM wl_L_154 ws_L_watch wn_L wc_L_watch ck_L_watch ⟨rfl, rfl⟩ ⟨by decide, by decide⟩ hf hl.1 (rest := []) rfl (Nat.le_of_ble_eq_true rfl) d_L_law_1465 (fun H locs hI => ?_)
  refine lv_istore (lv' := [(5, .int k), (0, .ref b), (1, .ref (adX 0)), (2, .ref (adM 0)), (3, .ref ao), (4, .int (nI n))]) hx hb d_L_law_1468 hl (by decide) rfl (fun ls hl => ?_)
  refine lv_aload_n hx hb d_L_law_1470 rfl (lv_at hl 3 rfl) ?_
  refine lw_arg hx hb hXs hbl hI.2.2.2 hl (p0 := 1) (p4 := 5) (n := n) rfl rfl 1 (ki := 1) rfl (by omega) hL d_L_law_1471 d_L_law_1472 d_L_law_1474 d_L_law_1475 d_L_law_1476 ?_
  refine lw_mod C hI (tM_watch l G c3 adM hdM Y (xs (n + 1)) r Y' hm) rfl wl_L_156 wi_M_watch we_M_watch wn_M wc_M_watch ck_M_watch ⟨rfl, rfl⟩ ⟨by decide, by decide⟩ ⟨hf.1, hf.2⟩ hl.1 (rest := []) rfl (Nat.le_of_ble_eq_true rfl) d_L_law_1477 (fun H locs hI => ?_)
  refine lv_istore (lv' := [(6, .int r), (5, .int k), (0, .ref b), (1, .ref (adX 0)), (2, .ref (adM 0)), (3, .ref ao), (4, .int (nI n))]) hx hb d_L_law_1480 hl (by decide) rfl (fun ls hl => ?_)
  refine lv_aload_n hx hb d_L_law_1482 rfl (lv_at hl 4 rfl) ?_
  refine xc_rv (rest := []) F hT (ty4_3 hK) hI.2.1 (tM_thrown l G c3 adM Y' _ rfl) sM_0 rfl wl_L_91 wi_M_thrown we_M_thrown wn_M wc_M_thrown ck_M_thrown ⟨rfl, rfl⟩ ⟨by decide, by decide⟩ ⟨hf.1, hf.2⟩ hl.1 rfl (Nat.le_of_ble_eq_true rfl) d_L_law_1483 ?_
  refine lv_iload hx hb d_L_law_1486 (lv_at hl 1 rfl) ?_
  refine lv_icmp_eq (tgt := 1493) hx hb d_L_law_1488 rfl (fun _ => ?_) (fun h => absurd ht h)
  refine lv_iload hx hb d_L_law_1493 (lv_at hl 1 rfl) ?_
  refine lv_if_ne (tgt := 1517) hx hb d_L_law_1495 rfl (fun _ => ?_) (fun h0 => ?_)
  · refine lv_goto (tgt := 1656) hx hb d_L_law_1517 rfl ?_
    exact kk _ _ _ hI (lv_sub hl [2, 3, 4, 5, 6] rfl)
  · refine lv_aload_n hx hb d_L_law_1498 rfl (lv_at hl 5 rfl) ?_
    refine lv_iconst (v := 0) hx hb d_L_law_1499 rfl ?_
    refine va_lald hx hb hK hI.2.2.1 0 3 rfl rfl (show ¬ ((0 : Int32) < 0 ∨ 1 ≤ (0 : Int32).toNatClampNeg) by decide) d_L_law_1500 ?_
    refine lv_iload hx hb d_L_law_1501 (lv_at hl 0 rfl) ?_
    refine lw_boolL hx hb d_L_law_1503 d_L_law_1506 d_L_law_1507 d_L_law_1510 ?_
    refine W.lcmp hx hb d_L_law_1511 ?_
    have hz : lg_cmp (o' (0 : Int32).toNatClampNeg) (zl r) = 0 := by
      rw [show (0 : Int32).toNatClampNeg = 0 by decide, he h0]; exact lg_self _
    refine lv_if_eq (tgt := 1517) hx hb d_L_law_1512 rfl (fun _ => ?_) (fun h => absurd hz h)
    refine lv_goto (tgt := 1656) hx hb d_L_law_1517 rfl ?_
    exact kk _ _ _ hI (lv_sub hl [2, 3, 4, 5, 6] rfl)
theorem lwS_18 {p : Program} {l : Launch} {e : Env} {s : State} {m : MethodId} {below : List Frame} {meth : Method} {c : Code} {H : Heap} {locs : List Loc} {cells slots : Nat} {Q : State → Prop} {ls : Array Slot} {b L n : Nat} {xs : Nat → Int32} {G : va_G} {c3 : ClassId × ClassId × ClassId} {cL : ClassId} {adX adM : Nat → Nat} {ao : Nat} {X Y : Mem} {o : Nat → Int64} {R : Mem → Mem → Prop} (C : LFix p l s m meth c b L xs G c3 cL adX adM ao) (hI : LInv s G c3 cL adX adM ao X Y o H locs) (hn : n + 5 ≤ L) (hl : lv_has ls 7 [(0, .ref b), (1, .ref (adX 0)), (2, .ref (adM 0)), (3, .ref ao), (4, .int (nI n))]) (hf : cells + 1 ≤ room_1.cells ∧ slots + 6 ≤ room_1.slots) (hs : simW1 R (fE_watch (xs (n + 1))) (kE_watch (xs (n + 1))) (fM_watch (xs (n + 1))) X Y)
    (kk : ∀ (X1 Y1 : Mem) (o1 : Nat → Int64) (H1 : Heap) (locs1 : List Loc) (ls1 : Array Slot), R X1 Y1 → LInv s G c3 cL adX adM ao X1 Y1 o1 H1 locs1 → lv_has ls1 7 [(0, .ref b), (1, .ref (adX 0)), (2, .ref (adM 0)), (3, .ref ao), (4, .int (nI n))] → W p l e room_1 s m #[Value.ref b] below meth c H1 locs1 (cells + 1) (slots + 6) Q (F0 m 1656 ls1 [])) : W p l e room_1 s m #[Value.ref b] below meth c H locs cells slots Q (F0 m 1457 ls []) := by
  obtain ⟨F, hT, hK, hX, hdX, hdM, g1, g2, g3, g4, g5, g6, hXs, hbl, hL, hfl, hr, hlk⟩ := id C
  rcases hs with hs | hs
  · obtain ⟨r, X', Y', e1, e2, ht, hR⟩ := hs
    exact lwC_18 C hI hn hl hf (hL_watch l s.heap.size G c3 cL adX hdX ao g5 X o (xs (n + 1)) r X' e1) e2 ht (fun _ => if_pos rfl) (fun H1 locs1 ls1 h1 h2 => kk _ _ _ H1 locs1 ls1 hR h1 h2)
  · obtain ⟨r, Y', e1, e2, ht, hR⟩ := hs
    exact lwC_18 C hI hn hl hf (hL_watch_x1 l hfl s.heap.size G c3 cL adX hdX ao g5 X o (xs (n + 1)) e1) e2 ht (fun h0 => absurd h0 (by decide)) (fun H1 locs1 ls1 h1 h2 => kk _ _ _ H1 locs1 ls1 hR h1 h2)
set_option maxHeartbeats 4000000 in
set_option maxRecDepth 100000 in
theorem lwC_19 {p : Program} {l : Launch} {e : Env} {s : State} {m : MethodId} {below : List Frame} {meth : Method} {c : Code} {H : Heap} {locs : List Loc} {cells slots : Nat} {Q : State → Prop} {ls : Array Slot} {b L n : Nat} {xs : Nat → Int32} {G : va_G} {c3 : ClassId × ClassId × ClassId} {cL : ClassId} {adX adM : Nat → Nat} {ao : Nat} {X X' Y Y' : Mem} {o o' : Nat → Int64} (C : LFix p l s m meth c b L xs G c3 cL adX adM ao) (hI : LInv s G c3 cL adX adM ao X Y o H locs) (hn : n + 5 ≤ L) (hl : lv_has ls 7 [(0, .ref b), (1, .ref (adX 0)), (2, .ref (adM 0)), (3, .ref ao), (4, .int (nI n))]) (hf : cells + 1 ≤ room_1.cells ∧ slots + 6 ≤ room_1.slots) {k : Int32} (hM : LMet l yL_watcher cL_watcher 6 [((0), (12), (15), (13))] (rm1_ 8 133) s.heap.size G c3 cL adX ao X o [.ref (adX 0), .int (xs (n + 1)), .int (xs (n + 2)), .int (xs (n + 3)), .ref ao] k X' o') {r : Int32} (hm : fM_watcher (xs (n + 1)) (xs (n + 2)) (xs (n + 3)) Y = some (r, Y')) (ht : Y' 0 0 = k) (he : k = 0 → o' 0 = r.toInt64) 
    (kk : ∀ (H1 : Heap) (locs1 : List Loc) (ls1 : Array Slot), LInv s G c3 cL adX adM ao X' Y' o' H1 locs1 → lv_has ls1 7 [(0, .ref b), (1, .ref (adX 0)), (2, .ref (adM 0)), (3, .ref ao), (4, .int (nI n))] → W p l e room_1 s m #[Value.ref b] below meth c H1 locs1 (cells + 1) (slots + 6) Q (F0 m 1656 ls1 [])) : W p l e room_1 s m #[Value.ref b] below meth c H locs cells slots Q (F0 m 1520 ls []) := by
  have C' := C
  obtain ⟨F, hT, hK, hX, hdX, hdM, g1, g2, g3, g4, g5, g6, hXs, hbl, hL, hfl, hr, hlk⟩ := C'
  have hx := F.1
  have hb := F.2.1
  refine lv_aload_n hx hb d_L_law_1520 rfl (lv_at hl 1 rfl) ?_
  refine lw_arg hx hb hXs hbl hI.2.2.2 hl (p0 := 0) (p4 := 4) (n := n) rfl rfl 1 (ki := 1) rfl (by omega) hL d_L_law_1521 d_L_law_1522 d_L_law_1524 d_L_law_1525 d_L_law_1526 ?_
  refine lw_arg hx hb hXs hbl hI.2.2.2 hl (p0 := 0) (p4 := 4) (n := n) rfl rfl 2 (ki := 2) rfl (by omega) hL d_L_law_1527 d_L_law_1528 d_L_law_1530 d_L_law_1531 d_L_law_1532 ?_
  refine lw_arg hx hb hXs hbl hI.2.2.2 hl (p0 := 0) (p4 := 4) (n := n) rfl rfl 3 (ki := 3) rfl (by omega) hL d_L_law_1533 d_L_law_1534 d_L_law_1536 d_L_law_1537 d_L_law_1538 ?_
  refine lv_aload_n hx hb d_L_law_1539 rfl (lv_at hl 3 rfl) ?_
  refine lw_help C hI hM wl_L_157 ws_L_watcher wn_L wc_L_watcher ck_L_watcher ⟨rfl, rfl⟩ ⟨by decide, by decide⟩ hf hl.1 (rest := []) rfl (Nat.le_of_ble_eq_true rfl) d_L_law_1540 (fun H locs hI => ?_)
  refine lv_istore (lv' := [(5, .int k), (0, .ref b), (1, .ref (adX 0)), (2, .ref (adM 0)), (3, .ref ao), (4, .int (nI n))]) hx hb d_L_law_1543 hl (by decide) rfl (fun ls hl => ?_)
  refine lv_aload_n hx hb d_L_law_1545 rfl (lv_at hl 3 rfl) ?_
  refine lw_arg hx hb hXs hbl hI.2.2.2 hl (p0 := 1) (p4 := 5) (n := n) rfl rfl 1 (ki := 1) rfl (by omega) hL d_L_law_1546 d_L_law_1547 d_L_law_1549 d_L_law_1550 d_L_law_1551 ?_
  refine lw_arg hx hb hXs hbl hI.2.2.2 hl (p0 := 1) (p4 := 5) (n := n) rfl rfl 2 (ki := 2) rfl (by omega) hL d_L_law_1552 d_L_law_1553 d_L_law_1555 d_L_law_1556 d_L_law_1557 ?_
  refine lw_arg hx hb hXs hbl hI.2.2.2 hl (p0 := 1) (p4 := 5) (n := n) rfl rfl 3 (ki := 3) rfl (by omega) hL d_L_law_1558 d_L_law_1559 d_L_law_1561 d_L_law_1562 d_L_law_1563 ?_
  refine lw_mod C hI (tM_watcher l G c3 adM hdM Y (xs (n + 1)) (xs (n + 2)) (xs (n + 3)) r Y' hm) rfl wl_L_160 wi_M_watcher we_M_watcher wn_M wc_M_watcher ck_M_watcher ⟨rfl, rfl⟩ ⟨by decide, by decide⟩ ⟨hf.1, hf.2⟩ hl.1 (rest := []) rfl (Nat.le_of_ble_eq_true rfl) d_L_law_1564 (fun H locs hI => ?_)
  refine lv_istore (lv' := [(6, .int r), (5, .int k), (0, .ref b), (1, .ref (adX 0)), (2, .ref (adM 0)), (3, .ref ao), (4, .int (nI n))]) hx hb d_L_law_1567 hl (by decide) rfl (fun ls hl => ?_)
  refine lv_aload_n hx hb d_L_law_1569 rfl (lv_at hl 4 rfl) ?_
  refine xc_rv (rest := []) F hT (ty4_3 hK) hI.2.1 (tM_thrown l G c3 adM Y' _ rfl) sM_0 rfl wl_L_91 wi_M_thrown we_M_thrown wn_M wc_M_thrown ck_M_thrown ⟨rfl, rfl⟩ ⟨by decide, by decide⟩ ⟨hf.1, hf.2⟩ hl.1 rfl (Nat.le_of_ble_eq_true rfl) d_L_law_1570 ?_
  refine lv_iload hx hb d_L_law_1573 (lv_at hl 1 rfl) ?_
  refine lv_icmp_eq (tgt := 1580) hx hb d_L_law_1575 rfl (fun _ => ?_) (fun h => absurd ht h)
  refine lv_iload hx hb d_L_law_1580 (lv_at hl 1 rfl) ?_
  refine lv_if_ne (tgt := 1597) hx hb d_L_law_1582 rfl (fun _ => ?_) (fun h0 => ?_)
  · refine lv_goto (tgt := 1656) hx hb d_L_law_1597 rfl ?_
    exact kk _ _ _ hI (lv_sub hl [2, 3, 4, 5, 6] rfl)
  · refine lv_aload_n hx hb d_L_law_1585 rfl (lv_at hl 5 rfl) ?_
    refine lv_iconst (v := 0) hx hb d_L_law_1586 rfl ?_
    refine va_lald hx hb hK hI.2.2.1 0 3 rfl rfl (show ¬ ((0 : Int32) < 0 ∨ 1 ≤ (0 : Int32).toNatClampNeg) by decide) d_L_law_1587 ?_
    refine lv_iload hx hb d_L_law_1588 (lv_at hl 0 rfl) ?_
    refine lv_i2l hx hb d_L_law_1590 rfl ?_
    refine W.lcmp hx hb d_L_law_1591 ?_
    have hz : lg_cmp (o' (0 : Int32).toNatClampNeg) r.toInt64 = 0 := by
      rw [show (0 : Int32).toNatClampNeg = 0 by decide, he h0]; exact lg_self _
    refine lv_if_eq (tgt := 1597) hx hb d_L_law_1592 rfl (fun _ => ?_) (fun h => absurd hz h)
    refine lv_goto (tgt := 1656) hx hb d_L_law_1597 rfl ?_
    exact kk _ _ _ hI (lv_sub hl [2, 3, 4, 5, 6] rfl)
theorem lwS_19 {p : Program} {l : Launch} {e : Env} {s : State} {m : MethodId} {below : List Frame} {meth : Method} {c : Code} {H : Heap} {locs : List Loc} {cells slots : Nat} {Q : State → Prop} {ls : Array Slot} {b L n : Nat} {xs : Nat → Int32} {G : va_G} {c3 : ClassId × ClassId × ClassId} {cL : ClassId} {adX adM : Nat → Nat} {ao : Nat} {X Y : Mem} {o : Nat → Int64} {R : Mem → Mem → Prop} (C : LFix p l s m meth c b L xs G c3 cL adX adM ao) (hI : LInv s G c3 cL adX adM ao X Y o H locs) (hn : n + 5 ≤ L) (hl : lv_has ls 7 [(0, .ref b), (1, .ref (adX 0)), (2, .ref (adM 0)), (3, .ref ao), (4, .int (nI n))]) (hf : cells + 1 ≤ room_1.cells ∧ slots + 6 ≤ room_1.slots) (hs : simR1 R (fE_watcher (xs (n + 1)) (xs (n + 2)) (xs (n + 3))) (kE_watcher (xs (n + 1)) (xs (n + 2)) (xs (n + 3))) 1 (fM_watcher (xs (n + 1)) (xs (n + 2)) (xs (n + 3))) X Y)
    (kk : ∀ (X1 Y1 : Mem) (o1 : Nat → Int64) (H1 : Heap) (locs1 : List Loc) (ls1 : Array Slot), R X1 Y1 → LInv s G c3 cL adX adM ao X1 Y1 o1 H1 locs1 → lv_has ls1 7 [(0, .ref b), (1, .ref (adX 0)), (2, .ref (adM 0)), (3, .ref ao), (4, .int (nI n))] → W p l e room_1 s m #[Value.ref b] below meth c H1 locs1 (cells + 1) (slots + 6) Q (F0 m 1656 ls1 [])) : W p l e room_1 s m #[Value.ref b] below meth c H locs cells slots Q (F0 m 1520 ls []) := by
  obtain ⟨F, hT, hK, hX, hdX, hdM, g1, g2, g3, g4, g5, g6, hXs, hbl, hL, hfl, hr, hlk⟩ := id C
  rcases hs with hs | hs
  · obtain ⟨r, Y', e1, e2, ht, hR⟩ := hs
    exact lwC_19 C hI hn hl hf (hL_watcher l s.heap.size G c3 cL adX hdX ao g5 X o (xs (n + 1)) (xs (n + 2)) (xs (n + 3)) r e1) e2 ht (fun _ => if_pos rfl) (fun H1 locs1 ls1 h1 h2 => kk _ _ _ H1 locs1 ls1 hR h1 h2)
  · obtain ⟨r, Y', e1, e2, ht, hR⟩ := hs
    exact lwC_19 C hI hn hl hf (hL_watcher_x1 l hfl s.heap.size G c3 cL adX hdX ao g5 X o (xs (n + 1)) (xs (n + 2)) (xs (n + 3)) e1) e2 ht (fun h0 => absurd h0 (by decide)) (fun H1 locs1 ls1 h1 h2 => kk _ _ _ H1 locs1 ls1 hR h1 h2)
set_option maxHeartbeats 4000000 in
set_option maxRecDepth 100000 in
theorem lwC_20 {p : Program} {l : Launch} {e : Env} {s : State} {m : MethodId} {below : List Frame} {meth : Method} {c : Code} {H : Heap} {locs : List Loc} {cells slots : Nat} {Q : State → Prop} {ls : Array Slot} {b L n : Nat} {xs : Nat → Int32} {G : va_G} {c3 : ClassId × ClassId × ClassId} {cL : ClassId} {adX adM : Nat → Nat} {ao : Nat} {X X' Y Y' : Mem} {o o' : Nat → Int64} (C : LFix p l s m meth c b L xs G c3 cL adX adM ao) (hI : LInv s G c3 cL adX adM ao X Y o H locs) (hn : n + 5 ≤ L) (hl : lv_has ls 7 [(0, .ref b), (1, .ref (adX 0)), (2, .ref (adM 0)), (3, .ref ao), (4, .int (nI n))]) (hf : cells + 1 ≤ room_1.cells ∧ slots + 6 ≤ room_1.slots) {k : Int32} (hM : LMet l yL_count cL_count 4 [((0), (9), (12), (15))] (rm1_ 7 111) s.heap.size G c3 cL adX ao X o [.ref (adX 0), .int (xs (n + 1)), .ref ao] k X' o') {r : Int32} (hm : fM_count (xs (n + 1)) Y = some (r, Y')) (ht : Y' 0 0 = k) (he : k = 0 → o' 0 = r.toInt64) 
    (kk : ∀ (H1 : Heap) (locs1 : List Loc) (ls1 : Array Slot), LInv s G c3 cL adX adM ao X' Y' o' H1 locs1 → lv_has ls1 7 [(0, .ref b), (1, .ref (adX 0)), (2, .ref (adM 0)), (3, .ref ao), (4, .int (nI n))] → W p l e room_1 s m #[Value.ref b] below meth c H1 locs1 (cells + 1) (slots + 6) Q (F0 m 1656 ls1 [])) : W p l e room_1 s m #[Value.ref b] below meth c H locs cells slots Q (F0 m 1600 ls []) := by
  have C' := C
  obtain ⟨F, hT, hK, hX, hdX, hdM, g1, g2, g3, g4, g5, g6, hXs, hbl, hL, hfl, hr, hlk⟩ := C'
  have hx := F.1
  have hb := F.2.1
  refine lv_aload_n hx hb d_L_law_1600 rfl (lv_at hl 1 rfl) ?_
  refine lw_arg hx hb hXs hbl hI.2.2.2 hl (p0 := 0) (p4 := 4) (n := n) rfl rfl 1 (ki := 1) rfl (by omega) hL d_L_law_1601 d_L_law_1602 d_L_law_1604 d_L_law_1605 d_L_law_1606 ?_
  refine lv_aload_n hx hb d_L_law_1607 rfl (lv_at hl 3 rfl) ?_
  refine lw_help C hI hM wl_L_161 ws_L_count wn_L wc_L_count ck_L_count ⟨rfl, rfl⟩ ⟨by decide, by decide⟩ hf hl.1 (rest := []) rfl (Nat.le_of_ble_eq_true rfl) d_L_law_1608 (fun H locs hI => ?_)
  refine lv_istore (lv' := [(5, .int k), (0, .ref b), (1, .ref (adX 0)), (2, .ref (adM 0)), (3, .ref ao), (4, .int (nI n))]) hx hb d_L_law_1611 hl (by decide) rfl (fun ls hl => ?_)
  refine lv_aload_n hx hb d_L_law_1613 rfl (lv_at hl 3 rfl) ?_
  refine lw_arg hx hb hXs hbl hI.2.2.2 hl (p0 := 1) (p4 := 5) (n := n) rfl rfl 1 (ki := 1) rfl (by omega) hL d_L_law_1614 d_L_law_1615 d_L_law_1617 d_L_law_1618 d_L_law_1619 ?_
  refine lw_mod C hI (tM_count l G c3 adM hdM Y (xs (n + 1)) r Y' hm) rfl wl_L_163 wi_M_count we_M_count wn_M wc_M_count ck_M_count ⟨rfl, rfl⟩ ⟨by decide, by decide⟩ ⟨hf.1, hf.2⟩ hl.1 (rest := []) rfl (Nat.le_of_ble_eq_true rfl) d_L_law_1620 (fun H locs hI => ?_)
  refine lv_istore (lv' := [(6, .int r), (5, .int k), (0, .ref b), (1, .ref (adX 0)), (2, .ref (adM 0)), (3, .ref ao), (4, .int (nI n))]) hx hb d_L_law_1623 hl (by decide) rfl (fun ls hl => ?_)
  refine lv_aload_n hx hb d_L_law_1625 rfl (lv_at hl 4 rfl) ?_
  refine xc_rv (rest := []) F hT (ty4_3 hK) hI.2.1 (tM_thrown l G c3 adM Y' _ rfl) sM_0 rfl wl_L_91 wi_M_thrown we_M_thrown wn_M wc_M_thrown ck_M_thrown ⟨rfl, rfl⟩ ⟨by decide, by decide⟩ ⟨hf.1, hf.2⟩ hl.1 rfl (Nat.le_of_ble_eq_true rfl) d_L_law_1626 ?_
  refine lv_iload hx hb d_L_law_1629 (lv_at hl 1 rfl) ?_
  refine lv_icmp_eq (tgt := 1636) hx hb d_L_law_1631 rfl (fun _ => ?_) (fun h => absurd ht h)
  refine lv_iload hx hb d_L_law_1636 (lv_at hl 1 rfl) ?_
  refine lv_if_ne (tgt := 1653) hx hb d_L_law_1638 rfl (fun _ => ?_) (fun h0 => ?_)
  · refine lv_goto (tgt := 1656) hx hb d_L_law_1653 rfl ?_
    exact kk _ _ _ hI (lv_sub hl [2, 3, 4, 5, 6] rfl)
  · refine lv_aload_n hx hb d_L_law_1641 rfl (lv_at hl 5 rfl) ?_
    refine lv_iconst (v := 0) hx hb d_L_law_1642 rfl ?_
    refine va_lald hx hb hK hI.2.2.1 0 3 rfl rfl (show ¬ ((0 : Int32) < 0 ∨ 1 ≤ (0 : Int32).toNatClampNeg) by decide) d_L_law_1643 ?_
    refine lv_iload hx hb d_L_law_1644 (lv_at hl 0 rfl) ?_
    refine lv_i2l hx hb d_L_law_1646 rfl ?_
    refine W.lcmp hx hb d_L_law_1647 ?_
    have hz : lg_cmp (o' (0 : Int32).toNatClampNeg) r.toInt64 = 0 := by
      rw [show (0 : Int32).toNatClampNeg = 0 by decide, he h0]; exact lg_self _
    refine lv_if_eq (tgt := 1653) hx hb d_L_law_1648 rfl (fun _ => ?_) (fun h => absurd hz h)
    refine lv_goto (tgt := 1656) hx hb d_L_law_1653 rfl ?_
    exact kk _ _ _ hI (lv_sub hl [2, 3, 4, 5, 6] rfl)
theorem lwS_20 {p : Program} {l : Launch} {e : Env} {s : State} {m : MethodId} {below : List Frame} {meth : Method} {c : Code} {H : Heap} {locs : List Loc} {cells slots : Nat} {Q : State → Prop} {ls : Array Slot} {b L n : Nat} {xs : Nat → Int32} {G : va_G} {c3 : ClassId × ClassId × ClassId} {cL : ClassId} {adX adM : Nat → Nat} {ao : Nat} {X Y : Mem} {o : Nat → Int64} {R : Mem → Mem → Prop} (C : LFix p l s m meth c b L xs G c3 cL adX adM ao) (hI : LInv s G c3 cL adX adM ao X Y o H locs) (hn : n + 5 ≤ L) (hl : lv_has ls 7 [(0, .ref b), (1, .ref (adX 0)), (2, .ref (adM 0)), (3, .ref ao), (4, .int (nI n))]) (hf : cells + 1 ≤ room_1.cells ∧ slots + 6 ≤ room_1.slots) (hs : simR1 R (fE_count (xs (n + 1))) (kE_count (xs (n + 1))) 2 (fM_count (xs (n + 1))) X Y)
    (kk : ∀ (X1 Y1 : Mem) (o1 : Nat → Int64) (H1 : Heap) (locs1 : List Loc) (ls1 : Array Slot), R X1 Y1 → LInv s G c3 cL adX adM ao X1 Y1 o1 H1 locs1 → lv_has ls1 7 [(0, .ref b), (1, .ref (adX 0)), (2, .ref (adM 0)), (3, .ref ao), (4, .int (nI n))] → W p l e room_1 s m #[Value.ref b] below meth c H1 locs1 (cells + 1) (slots + 6) Q (F0 m 1656 ls1 [])) : W p l e room_1 s m #[Value.ref b] below meth c H locs cells slots Q (F0 m 1600 ls []) := by
  obtain ⟨F, hT, hK, hX, hdX, hdM, g1, g2, g3, g4, g5, g6, hXs, hbl, hL, hfl, hr, hlk⟩ := id C
  rcases hs with hs | hs
  · obtain ⟨r, Y', e1, e2, ht, hR⟩ := hs
    exact lwC_20 C hI hn hl hf (hL_count l s.heap.size G c3 cL adX hdX ao g5 X o (xs (n + 1)) r e1) e2 ht (fun _ => if_pos rfl) (fun H1 locs1 ls1 h1 h2 => kk _ _ _ H1 locs1 ls1 hR h1 h2)
  · obtain ⟨r, Y', e1, e2, ht, hR⟩ := hs
    exact lwC_20 C hI hn hl hf (hL_count_x2 l hfl s.heap.size G c3 cL adX hdX ao g5 X o (xs (n + 1)) e1) e2 ht (fun h0 => absurd h0 (by decide)) (fun H1 locs1 ls1 h1 h2 => kk _ _ _ H1 locs1 ls1 hR h1 h2)
